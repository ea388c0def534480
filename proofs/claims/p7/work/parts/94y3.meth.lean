set_option maxRecDepth 100000
/-! Town_addPerson -/
noncomputable def fn_Town_addPerson (a1 : Int32) (hp : px_H) : Option (Int32 × px_H) :=
  bif px_inR (gI hp 1 0) 10 then
  sb (uI hp 2 (gI hp 1 0).toNatClampNeg a1) fun h2 =>
  bif px_inR (gI hp 1 0) 10 then
  sb (uI h2 4 (gI hp 1 0).toNatClampNeg (Int32.ofInt 1)) fun h5 =>
  bif px_inR (gI hp 1 0) 10 then
  sb (uI h5 5 (gI hp 1 0).toNatClampNeg (Int32.ofInt 0)) fun h8 =>
  bif px_inR (gI hp 1 0) 10 then
  sb (uI h8 6 (gI hp 1 0).toNatClampNeg (Int16.ofInt 1000).toInt32) fun h11 =>
  sb (wF h11 1 0 (.int ((gI h11 1 0) + (Int32.ofInt 1)))) fun h13 =>
  some ((gI hp 1 0), h13)
  else none
  else none
  else none
  else none
theorem fx_Town_addPerson {a1 : Int32} {hp : px_H} {res : Int32 × px_H} (hS : oS hp) (h : fn_Town_addPerson a1 hp = some res) : px_C nm_T nm_P mi_Town_addPerson [.ref 1, .int a1] hp (some (.int res.1)) res.2 ∧ oS res.2 := by
  unfold fn_Town_addPerson at h
  refine py_C (M := mm_Town_addPerson) rfl (Nat.le_of_ble_eq_true rfl) ?_
  show px_Y mm_Town_addPerson 0 [(0, .ref 1), (1, .int a1)] [] hp _ _
  refine py_its (pc := 0) (pc1 := 1) (lv1 := [(0, .ref 1), (1, .int a1)]) (st1 := [.ref 1]) 1 (fun _ _ _ _ => rfl) ?_
  refine py_gI (pc := 1) (len := 3) (cs := [1]) rfl rfl rfl List.mem_cons_self hS ?_
  refine py_its (pc := 4) (pc1 := 6) (lv1 := [(2, .int (gI hp 1 0)), (0, .ref 1), (1, .int a1)]) (st1 := [.ref 1]) 2 (fun _ _ _ _ => rfl) ?_
  refine py_g1 2 (pc := 6) (len := 3) (cs := [1]) rfl rfl rfl List.mem_cons_self hS ?_
  refine py_its (pc := 9) (pc1 := 11) (lv1 := [(2, .int (gI hp 1 0)), (0, .ref 1), (1, .int a1)]) (st1 := [.int a1, .int (gI hp 1 0), .ref 2]) 2 (fun _ _ _ _ => rfl) ?_
  obtain ⟨hi1, h⟩ := cd_n h
  have h := sb_e h
  refine py_si (pc := 11) (len := 1) (cs := [2]) (t := 12) (n := 10) rfl rfl rfl hi1 List.mem_cons_self hS ?_
  have hS3 : oS (uI hp 2 (gI hp 1 0).toNatClampNeg a1) := oS_uI (cs := [2]) (t := 12) (n := 10) rfl List.mem_cons_self hS
  generalize (uI hp 2 (gI hp 1 0).toNatClampNeg a1) = h2 at h hS3 ⊢
  refine py_its (pc := 12) (pc1 := 13) (lv1 := [(2, .int (gI hp 1 0)), (0, .ref 1), (1, .int a1)]) (st1 := [.ref 1]) 1 (fun _ _ _ _ => rfl) ?_
  refine py_g1 4 (pc := 13) (len := 3) (cs := [1]) rfl rfl rfl List.mem_cons_self hS3 ?_
  refine py_its (pc := 16) (pc1 := 18) (lv1 := [(2, .int (gI hp 1 0)), (0, .ref 1), (1, .int a1)]) (st1 := [.int (Int32.ofInt 1), .int (gI hp 1 0), .ref 4]) 2 (fun _ _ _ _ => rfl) ?_
  obtain ⟨hi4, h⟩ := cd_n h
  have h := sb_e h
  refine py_si (pc := 18) (len := 1) (cs := [4]) (t := 14) (n := 10) rfl rfl rfl hi4 List.mem_cons_self hS3 ?_
  have hS6 : oS (uI h2 4 (gI hp 1 0).toNatClampNeg (Int32.ofInt 1)) := oS_uI (cs := [4]) (t := 14) (n := 10) rfl List.mem_cons_self hS3
  generalize (uI h2 4 (gI hp 1 0).toNatClampNeg (Int32.ofInt 1)) = h5 at h hS6 ⊢
  refine py_its (pc := 19) (pc1 := 20) (lv1 := [(2, .int (gI hp 1 0)), (0, .ref 1), (1, .int a1)]) (st1 := [.ref 1]) 1 (fun _ _ _ _ => rfl) ?_
  refine py_g1 5 (pc := 20) (len := 3) (cs := [1]) rfl rfl rfl List.mem_cons_self hS6 ?_
  refine py_its (pc := 23) (pc1 := 25) (lv1 := [(2, .int (gI hp 1 0)), (0, .ref 1), (1, .int a1)]) (st1 := [.int (Int32.ofInt 0), .int (gI hp 1 0), .ref 5]) 2 (fun _ _ _ _ => rfl) ?_
  obtain ⟨hi7, h⟩ := cd_n h
  have h := sb_e h
  refine py_si (pc := 25) (len := 1) (cs := [5]) (t := 15) (n := 10) rfl rfl rfl hi7 List.mem_cons_self hS6 ?_
  have hS9 : oS (uI h5 5 (gI hp 1 0).toNatClampNeg (Int32.ofInt 0)) := oS_uI (cs := [5]) (t := 15) (n := 10) rfl List.mem_cons_self hS6
  generalize (uI h5 5 (gI hp 1 0).toNatClampNeg (Int32.ofInt 0)) = h8 at h hS9 ⊢
  refine py_its (pc := 26) (pc1 := 27) (lv1 := [(2, .int (gI hp 1 0)), (0, .ref 1), (1, .int a1)]) (st1 := [.ref 1]) 1 (fun _ _ _ _ => rfl) ?_
  refine py_g1 6 (pc := 27) (len := 3) (cs := [1]) rfl rfl rfl List.mem_cons_self hS9 ?_
  refine py_its (pc := 30) (pc1 := 34) (lv1 := [(2, .int (gI hp 1 0)), (0, .ref 1), (1, .int a1)]) (st1 := [.int (Int16.ofInt 1000).toInt32, .int (gI hp 1 0), .ref 6]) 2 (fun _ _ _ _ => rfl) ?_
  obtain ⟨hi10, h⟩ := cd_n h
  have h := sb_e h
  refine py_si (pc := 34) (len := 1) (cs := [6]) (t := 16) (n := 10) rfl rfl rfl hi10 List.mem_cons_self hS9 ?_
  have hS12 : oS (uI h8 6 (gI hp 1 0).toNatClampNeg (Int16.ofInt 1000).toInt32) := oS_uI (cs := [6]) (t := 16) (n := 10) rfl List.mem_cons_self hS9
  generalize (uI h8 6 (gI hp 1 0).toNatClampNeg (Int16.ofInt 1000).toInt32) = h11 at h hS12 ⊢
  refine py_its (pc := 35) (pc1 := 37) (lv1 := [(2, .int (gI hp 1 0)), (0, .ref 1), (1, .int a1)]) (st1 := [.ref 1, .ref 1]) 2 (fun _ _ _ _ => rfl) ?_
  refine py_gI (pc := 37) (len := 3) (cs := [1]) rfl rfl rfl List.mem_cons_self hS12 ?_
  refine py_its (pc := 40) (pc1 := 42) (lv1 := [(2, .int (gI hp 1 0)), (0, .ref 1), (1, .int a1)]) (st1 := [.int ((gI h11 1 0) + (Int32.ofInt 1)), .ref 1]) 2 (fun _ _ _ _ => rfl) ?_
  have h := sb_e h
  refine py_pI (pc := 42) (len := 3) (cs := [1]) rfl rfl rfl List.mem_cons_self hS12 rfl rfl rfl rfl ?_
  have hS14 : oS (wF h11 1 0 (.int ((gI h11 1 0) + (Int32.ofInt 1)))) := oS_wI (cs := [1]) (ci := 6) rfl List.mem_cons_self hS12
  generalize (wF h11 1 0 (.int ((gI h11 1 0) + (Int32.ofInt 1)))) = h13 at h hS14 ⊢
  refine py_its (pc := 45) (pc1 := 46) (lv1 := [(2, .int (gI hp 1 0)), (0, .ref 1), (1, .int a1)]) (st1 := [.int (gI hp 1 0)]) 1 (fun _ _ _ _ => rfl) ?_
  have h := Option.some.inj h
  subst h
  exact py_ir (pc := 46) (len := 1) (ty := .int) rfl rfl rfl hS14
/-! X_person -/
noncomputable def fn_X_person (a1 : Int32) (hp : px_H) : Option (Int32 × px_H) :=
  bif px_cmp .lt a1 0 then
    some ((Int32.ofInt (-1)), hp)
  else
    bif px_cmp .ge a1 (Int8.ofInt 6).toInt32 then
      some ((Int32.ofInt (-1)), hp)
    else
      bif px_cmp .lt (gI hp 1 0) (Int8.ofInt 10).toInt32 then
        (fn_Town_addPerson a1 hp).bind fun q4 =>
        some (q4.1, q4.2)
      else
        some ((Int32.ofInt (-1)), hp)
theorem fx_X_person {a1 : Int32} {hp : px_H} {res : Int32 × px_H} (hS : oS hp) (h : fn_X_person a1 hp = some res) : px_C nm_T nm_P mi_X_person [.ref 0, .int a1] hp (some (.int res.1)) res.2 ∧ oS res.2 := by
  unfold fn_X_person at h
  refine py_C (M := mm_X_person) rfl (Nat.le_of_ble_eq_true rfl) ?_
  show px_Y mm_X_person 0 [(0, .ref 0), (1, .int a1)] [] hp _ _
  refine py_its (pc := 0) (pc1 := 1) (lv1 := [(0, .ref 0), (1, .int a1)]) (st1 := [.int a1]) 1 (fun _ _ _ _ => rfl) ?_
  cases hb1 : px_cmp .lt a1 0 with
  | true =>
    have h := cd_t hb1 h
    refine py_if (pc := 1) (len := 3) true rfl hb1 ?_
    refine py_its (pc := 22) (pc1 := 23) (lv1 := [(0, .ref 0), (1, .int a1)]) (st1 := [.int (Int32.ofInt (-1))]) 1 (fun _ _ _ _ => rfl) ?_
    have h := Option.some.inj h
    subst h
    exact py_ir (pc := 23) (len := 1) (ty := .int) rfl rfl rfl hS
  | false =>
    have h := cd_f hb1 h
    refine py_if (pc := 1) (len := 3) false rfl hb1 ?_
    refine py_its (pc := 4) (pc1 := 7) (lv1 := [(0, .ref 0), (1, .int a1)]) (st1 := [.int (Int8.ofInt 6).toInt32, .int a1]) 2 (fun _ _ _ _ => rfl) ?_
    cases hb2 : px_cmp .ge a1 (Int8.ofInt 6).toInt32 with
    | true =>
      have h := cd_t hb2 h
      refine py_ic (pc := 7) (len := 3) true rfl hb2 ?_
      refine py_its (pc := 22) (pc1 := 23) (lv1 := [(0, .ref 0), (1, .int a1)]) (st1 := [.int (Int32.ofInt (-1))]) 1 (fun _ _ _ _ => rfl) ?_
      have h := Option.some.inj h
      subst h
      exact py_ir (pc := 23) (len := 1) (ty := .int) rfl rfl rfl hS
    | false =>
      have h := cd_f hb2 h
      refine py_ic (pc := 7) (len := 3) false rfl hb2 ?_
      refine py_its (pc := 10) (pc1 := 11) (lv1 := [(0, .ref 0), (1, .int a1)]) (st1 := [.ref 0]) 1 (fun _ _ _ _ => rfl) ?_
      refine py_g1 1 (pc := 11) (len := 3) (cs := [0]) rfl rfl rfl List.mem_cons_self hS ?_
      refine py_gI (pc := 14) (len := 3) (cs := [1]) rfl rfl rfl List.mem_cons_self hS ?_
      refine py_its (pc := 17) (pc1 := 19) (lv1 := [(0, .ref 0), (1, .int a1)]) (st1 := [.int (Int8.ofInt 10).toInt32, .int (gI hp 1 0)]) 1 (fun _ _ _ _ => rfl) ?_
      cases hb3 : px_cmp .lt (gI hp 1 0) (Int8.ofInt 10).toInt32 with
      | true =>
        have h := cd_t hb3 h
        refine py_ic (pc := 19) (len := 3) true rfl hb3 ?_
        refine py_its (pc := 24) (pc1 := 25) (lv1 := [(0, .ref 0), (1, .int a1)]) (st1 := [.ref 0]) 1 (fun _ _ _ _ => rfl) ?_
        refine py_g1 1 (pc := 25) (len := 3) (cs := [0]) rfl rfl rfl List.mem_cons_self hS ?_
        refine py_its (pc := 28) (pc1 := 29) (lv1 := [(0, .ref 0), (1, .int a1)]) (st1 := [.int a1, .ref 1]) 1 (fun _ _ _ _ => rfl) ?_
        obtain ⟨q4, hq5, h⟩ := bd_e h
        obtain ⟨hC6, hS7⟩ := fx_Town_addPerson hS hq5
        refine py_vi (pc := 29) (mi := mi_Town_addPerson) (cs := [1]) (N := mm_Town_addPerson) rfl rfl rfl rfl List.mem_cons_self hS rfl (Nat.le_of_ble_eq_true rfl) (Nat.le_of_ble_eq_true rfl) rfl rfl hC6 ?_
        show px_Y mm_X_person 32 [(0, .ref 0), (1, .int a1)] [.int q4.1] q4.2 _ _
        have h := Option.some.inj h
        subst h
        exact py_ir (pc := 32) (len := 1) (ty := .int) rfl rfl rfl hS7
      | false =>
        have h := cd_f hb3 h
        refine py_ic (pc := 19) (len := 3) false rfl hb3 ?_
        refine py_its (pc := 22) (pc1 := 23) (lv1 := [(0, .ref 0), (1, .int a1)]) (st1 := [.int (Int32.ofInt (-1))]) 1 (fun _ _ _ _ => rfl) ?_
        have h := Option.some.inj h
        subst h
        exact py_ir (pc := 23) (len := 1) (ty := .int) rfl rfl rfl hS
/-! Town_hasPerson -/
noncomputable def fn_Town_hasPerson (a1 : Int32) (hp : px_H) : Option (Int32) :=
  bif px_cmp .lt a1 0 then
    some (Int32.ofInt 0)
  else
    bif px_cmp .ge a1 (gI hp 1 0) then
      some (Int32.ofInt 0)
    else
      some (Int32.ofInt 1)
theorem fx_Town_hasPerson {a1 : Int32} {hp : px_H} {res : Int32} (hS : oS hp) (h : fn_Town_hasPerson a1 hp = some res) : px_C nm_T nm_P mi_Town_hasPerson [.ref 1, .int a1] hp (some (.int res)) hp ∧ oS hp := by
  unfold fn_Town_hasPerson at h
  refine py_C (M := mm_Town_hasPerson) rfl (Nat.le_of_ble_eq_true rfl) ?_
  show px_Y mm_Town_hasPerson 0 [(0, .ref 1), (1, .int a1)] [] hp _ _
  refine py_its (pc := 0) (pc1 := 1) (lv1 := [(0, .ref 1), (1, .int a1)]) (st1 := [.int a1]) 1 (fun _ _ _ _ => rfl) ?_
  cases hb1 : px_cmp .lt a1 0 with
  | true =>
    have h := cd_t hb1 h
    refine py_if (pc := 1) (len := 3) true rfl hb1 ?_
    refine py_its (pc := 16) (pc1 := 17) (lv1 := [(0, .ref 1), (1, .int a1)]) (st1 := [.int (Int32.ofInt 0)]) 1 (fun _ _ _ _ => rfl) ?_
    have h := Option.some.inj h
    subst h
    exact py_ir (pc := 17) (len := 1) (ty := .boolean) rfl rfl (by decide) hS
  | false =>
    have h := cd_f hb1 h
    refine py_if (pc := 1) (len := 3) false rfl hb1 ?_
    refine py_its (pc := 4) (pc1 := 6) (lv1 := [(0, .ref 1), (1, .int a1)]) (st1 := [.ref 1, .int a1]) 2 (fun _ _ _ _ => rfl) ?_
    refine py_gI (pc := 6) (len := 3) (cs := [1]) rfl rfl rfl List.mem_cons_self hS ?_
    cases hb2 : px_cmp .ge a1 (gI hp 1 0) with
    | true =>
      have h := cd_t hb2 h
      refine py_ic (pc := 9) (len := 3) true rfl hb2 ?_
      refine py_its (pc := 16) (pc1 := 17) (lv1 := [(0, .ref 1), (1, .int a1)]) (st1 := [.int (Int32.ofInt 0)]) 1 (fun _ _ _ _ => rfl) ?_
      have h := Option.some.inj h
      subst h
      exact py_ir (pc := 17) (len := 1) (ty := .boolean) rfl rfl (by decide) hS
    | false =>
      have h := cd_f hb2 h
      refine py_ic (pc := 9) (len := 3) false rfl hb2 ?_
      refine py_its (pc := 12) (pc1 := 17) (lv1 := [(0, .ref 1), (1, .int a1)]) (st1 := [.int (Int32.ofInt 1)]) 2 (fun _ _ _ _ => rfl) ?_
      have h := Option.some.inj h
      subst h
      exact py_ir (pc := 17) (len := 1) (ty := .boolean) rfl rfl (by decide) hS
/-! X_isDay -/
noncomputable def fn_X_isDay (a0 : Int32) (hp : px_H) : Option (Int32) :=
  bif px_cmp .lt a0 0 then
    some (Int32.ofInt 0)
  else
    bif px_cmp .ge a0 (Int16.ofInt 1000).toInt32 then
      some (Int32.ofInt 0)
    else
      some (Int32.ofInt 1)
theorem fx_X_isDay {a0 : Int32} {hp : px_H} {res : Int32} (hS : oS hp) (h : fn_X_isDay a0 hp = some res) : px_C nm_T nm_P mi_X_isDay [.int a0] hp (some (.int res)) hp ∧ oS hp := by
  unfold fn_X_isDay at h
  refine py_C (M := mm_X_isDay) rfl (Nat.le_of_ble_eq_true rfl) ?_
  show px_Y mm_X_isDay 0 [(0, .int a0)] [] hp _ _
  refine py_its (pc := 0) (pc1 := 1) (lv1 := [(0, .int a0)]) (st1 := [.int a0]) 1 (fun _ _ _ _ => rfl) ?_
  cases hb1 : px_cmp .lt a0 0 with
  | true =>
    have h := cd_t hb1 h
    refine py_if (pc := 1) (len := 3) true rfl hb1 ?_
    refine py_its (pc := 15) (pc1 := 16) (lv1 := [(0, .int a0)]) (st1 := [.int (Int32.ofInt 0)]) 1 (fun _ _ _ _ => rfl) ?_
    have h := Option.some.inj h
    subst h
    exact py_ir (pc := 16) (len := 1) (ty := .boolean) rfl rfl (by decide) hS
  | false =>
    have h := cd_f hb1 h
    refine py_if (pc := 1) (len := 3) false rfl hb1 ?_
    refine py_its (pc := 4) (pc1 := 8) (lv1 := [(0, .int a0)]) (st1 := [.int (Int16.ofInt 1000).toInt32, .int a0]) 2 (fun _ _ _ _ => rfl) ?_
    cases hb2 : px_cmp .ge a0 (Int16.ofInt 1000).toInt32 with
    | true =>
      have h := cd_t hb2 h
      refine py_ic (pc := 8) (len := 3) true rfl hb2 ?_
      refine py_its (pc := 15) (pc1 := 16) (lv1 := [(0, .int a0)]) (st1 := [.int (Int32.ofInt 0)]) 1 (fun _ _ _ _ => rfl) ?_
      have h := Option.some.inj h
      subst h
      exact py_ir (pc := 16) (len := 1) (ty := .boolean) rfl rfl (by decide) hS
    | false =>
      have h := cd_f hb2 h
      refine py_ic (pc := 8) (len := 3) false rfl hb2 ?_
      refine py_its (pc := 11) (pc1 := 16) (lv1 := [(0, .int a0)]) (st1 := [.int (Int32.ofInt 1)]) 2 (fun _ _ _ _ => rfl) ?_
      have h := Option.some.inj h
      subst h
      exact py_ir (pc := 16) (len := 1) (ty := .boolean) rfl rfl (by decide) hS
/-! X_debt -/
noncomputable def fn_X_debt (a1 : Int32) (a2 : Int32) (hp : px_H) : Option (Int32 × px_H) :=
  (fn_Town_hasPerson a1 hp).bind fun q1 =>
  bif px_cmp .eq q1 0 then
    some ((Int32.ofInt (-1)), hp)
  else
    (fn_X_isDay a2 hp).bind fun q5 =>
    bif px_cmp .ne q5 0 then
      bif px_inR a1 10 then
      bif px_inR a1 10 then
      sb (uI hp 3 a1.toNatClampNeg a2) fun h11 =>
      some ((aI hp 3 a1.toNatClampNeg), h11)
      else none
      else none
    else
      some ((Int32.ofInt (-1)), hp)
theorem fx_X_debt {a1 : Int32} {a2 : Int32} {hp : px_H} {res : Int32 × px_H} (hS : oS hp) (h : fn_X_debt a1 a2 hp = some res) : px_C nm_T nm_P mi_X_debt [.ref 0, .int a1, .int a2] hp (some (.int res.1)) res.2 ∧ oS res.2 := by
  unfold fn_X_debt at h
  refine py_C (M := mm_X_debt) rfl (Nat.le_of_ble_eq_true rfl) ?_
  show px_Y mm_X_debt 0 [(0, .ref 0), (1, .int a1), (2, .int a2)] [] hp _ _
  refine py_its (pc := 0) (pc1 := 1) (lv1 := [(0, .ref 0), (1, .int a1), (2, .int a2)]) (st1 := [.ref 0]) 1 (fun _ _ _ _ => rfl) ?_
  refine py_g1 1 (pc := 1) (len := 3) (cs := [0]) rfl rfl rfl List.mem_cons_self hS ?_
  refine py_its (pc := 4) (pc1 := 5) (lv1 := [(0, .ref 0), (1, .int a1), (2, .int a2)]) (st1 := [.int a1, .ref 1]) 1 (fun _ _ _ _ => rfl) ?_
  obtain ⟨q1, hq2, h⟩ := bd_e h
  have hC3 := (fx_Town_hasPerson hS hq2).1
  refine py_vi (pc := 5) (mi := mi_Town_hasPerson) (cs := [1]) (N := mm_Town_hasPerson) rfl rfl rfl rfl List.mem_cons_self hS rfl (Nat.le_of_ble_eq_true rfl) (Nat.le_of_ble_eq_true rfl) rfl rfl hC3 ?_
  show px_Y mm_X_debt 8 [(0, .ref 0), (1, .int a1), (2, .int a2)] [.int q1] hp _ _
  cases hb4 : px_cmp .eq q1 0 with
  | true =>
    have h := cd_t hb4 h
    refine py_if (pc := 8) (len := 3) true rfl hb4 ?_
    refine py_its (pc := 18) (pc1 := 19) (lv1 := [(0, .ref 0), (1, .int a1), (2, .int a2)]) (st1 := [.int (Int32.ofInt (-1))]) 1 (fun _ _ _ _ => rfl) ?_
    have h := Option.some.inj h
    subst h
    exact py_ir (pc := 19) (len := 1) (ty := .int) rfl rfl rfl hS
  | false =>
    have h := cd_f hb4 h
    refine py_if (pc := 8) (len := 3) false rfl hb4 ?_
    refine py_its (pc := 11) (pc1 := 12) (lv1 := [(0, .ref 0), (1, .int a1), (2, .int a2)]) (st1 := [.int a2]) 1 (fun _ _ _ _ => rfl) ?_
    obtain ⟨q5, hq6, h⟩ := bd_e h
    have hC7 := (fx_X_isDay hS hq6).1
    refine py_st (pc := 12) (mi := mi_X_isDay) (N := mm_X_isDay) rfl rfl rfl (Nat.le_of_ble_eq_true rfl) (Nat.le_of_ble_eq_true rfl) rfl rfl hC7 ?_
    show px_Y mm_X_debt 15 [(0, .ref 0), (1, .int a1), (2, .int a2)] [.int q5] hp _ _
    cases hb8 : px_cmp .ne q5 0 with
    | true =>
      have h := cd_t hb8 h
      refine py_if (pc := 15) (len := 3) true rfl hb8 ?_
      refine py_its (pc := 20) (pc1 := 21) (lv1 := [(0, .ref 0), (1, .int a1), (2, .int a2)]) (st1 := [.ref 0]) 1 (fun _ _ _ _ => rfl) ?_
      refine py_g1 1 (pc := 21) (len := 3) (cs := [0]) rfl rfl rfl List.mem_cons_self hS ?_
      refine py_g1 3 (pc := 24) (len := 3) (cs := [1]) rfl rfl rfl List.mem_cons_self hS ?_
      refine py_its (pc := 27) (pc1 := 28) (lv1 := [(0, .ref 0), (1, .int a1), (2, .int a2)]) (st1 := [.int a1, .ref 3]) 1 (fun _ _ _ _ => rfl) ?_
      obtain ⟨hi9, h⟩ := cd_n h
      refine py_ai (pc := 28) (len := 1) (cs := [3]) (t := 13) (n := 10) rfl rfl rfl hi9 List.mem_cons_self hS ?_
      refine py_its (pc := 29) (pc1 := 31) (lv1 := [(3, .int (aI hp 3 a1.toNatClampNeg)), (0, .ref 0), (1, .int a1), (2, .int a2)]) (st1 := [.ref 0]) 2 (fun _ _ _ _ => rfl) ?_
      refine py_g1 1 (pc := 31) (len := 3) (cs := [0]) rfl rfl rfl List.mem_cons_self hS ?_
      refine py_g1 3 (pc := 34) (len := 3) (cs := [1]) rfl rfl rfl List.mem_cons_self hS ?_
      refine py_its (pc := 37) (pc1 := 39) (lv1 := [(3, .int (aI hp 3 a1.toNatClampNeg)), (0, .ref 0), (1, .int a1), (2, .int a2)]) (st1 := [.int a2, .int a1, .ref 3]) 2 (fun _ _ _ _ => rfl) ?_
      obtain ⟨hi10, h⟩ := cd_n h
      have h := sb_e h
      refine py_si (pc := 39) (len := 1) (cs := [3]) (t := 13) (n := 10) rfl rfl rfl hi10 List.mem_cons_self hS ?_
      have hS12 : oS (uI hp 3 a1.toNatClampNeg a2) := oS_uI (cs := [3]) (t := 13) (n := 10) rfl List.mem_cons_self hS
      generalize (uI hp 3 a1.toNatClampNeg a2) = h11 at h hS12 ⊢
      refine py_its (pc := 40) (pc1 := 41) (lv1 := [(3, .int (aI hp 3 a1.toNatClampNeg)), (0, .ref 0), (1, .int a1), (2, .int a2)]) (st1 := [.int (aI hp 3 a1.toNatClampNeg)]) 1 (fun _ _ _ _ => rfl) ?_
      have h := Option.some.inj h
      subst h
      exact py_ir (pc := 41) (len := 1) (ty := .int) rfl rfl rfl hS12
    | false =>
      have h := cd_f hb8 h
      refine py_if (pc := 15) (len := 3) false rfl hb8 ?_
      refine py_its (pc := 18) (pc1 := 19) (lv1 := [(0, .ref 0), (1, .int a1), (2, .int a2)]) (st1 := [.int (Int32.ofInt (-1))]) 1 (fun _ _ _ _ => rfl) ?_
      have h := Option.some.inj h
      subst h
      exact py_ir (pc := 19) (len := 1) (ty := .int) rfl rfl rfl hS
/-! X_away -/
noncomputable def fn_X_away (a1 : Int32) (a2 : Int32) (a3 : Int32) (hp : px_H) : Option (Int32 × px_H) :=
  (fn_Town_hasPerson a1 hp).bind fun q1 =>
  bif px_cmp .eq q1 0 then
    some ((Int32.ofInt 0), hp)
  else
    (fn_X_isDay a2 hp).bind fun q5 =>
    bif px_cmp .eq q5 0 then
      some ((Int32.ofInt 0), hp)
    else
      (fn_X_isDay a3 hp).bind fun q9 =>
      bif px_cmp .ne q9 0 then
        bif px_inR a1 10 then
        sb (uI hp 4 a1.toNatClampNeg a2) fun h14 =>
        bif px_inR a1 10 then
        sb (uI h14 5 a1.toNatClampNeg a3) fun h17 =>
        some ((Int32.ofInt 1), h17)
        else none
        else none
      else
        some ((Int32.ofInt 0), hp)
theorem fx_X_away {a1 : Int32} {a2 : Int32} {a3 : Int32} {hp : px_H} {res : Int32 × px_H} (hS : oS hp) (h : fn_X_away a1 a2 a3 hp = some res) : px_C nm_T nm_P mi_X_away [.ref 0, .int a1, .int a2, .int a3] hp (some (.int res.1)) res.2 ∧ oS res.2 := by
  unfold fn_X_away at h
  refine py_C (M := mm_X_away) rfl (Nat.le_of_ble_eq_true rfl) ?_
  show px_Y mm_X_away 0 [(0, .ref 0), (1, .int a1), (2, .int a2), (3, .int a3)] [] hp _ _
  refine py_its (pc := 0) (pc1 := 1) (lv1 := [(0, .ref 0), (1, .int a1), (2, .int a2), (3, .int a3)]) (st1 := [.ref 0]) 1 (fun _ _ _ _ => rfl) ?_
  refine py_g1 1 (pc := 1) (len := 3) (cs := [0]) rfl rfl rfl List.mem_cons_self hS ?_
  refine py_its (pc := 4) (pc1 := 5) (lv1 := [(0, .ref 0), (1, .int a1), (2, .int a2), (3, .int a3)]) (st1 := [.int a1, .ref 1]) 1 (fun _ _ _ _ => rfl) ?_
  obtain ⟨q1, hq2, h⟩ := bd_e h
  have hC3 := (fx_Town_hasPerson hS hq2).1
  refine py_vi (pc := 5) (mi := mi_Town_hasPerson) (cs := [1]) (N := mm_Town_hasPerson) rfl rfl rfl rfl List.mem_cons_self hS rfl (Nat.le_of_ble_eq_true rfl) (Nat.le_of_ble_eq_true rfl) rfl rfl hC3 ?_
  show px_Y mm_X_away 8 [(0, .ref 0), (1, .int a1), (2, .int a2), (3, .int a3)] [.int q1] hp _ _
  cases hb4 : px_cmp .eq q1 0 with
  | true =>
    have h := cd_t hb4 h
    refine py_if (pc := 8) (len := 3) true rfl hb4 ?_
    refine py_its (pc := 25) (pc1 := 26) (lv1 := [(0, .ref 0), (1, .int a1), (2, .int a2), (3, .int a3)]) (st1 := [.int (Int32.ofInt 0)]) 1 (fun _ _ _ _ => rfl) ?_
    have h := Option.some.inj h
    subst h
    exact py_ir (pc := 26) (len := 1) (ty := .boolean) rfl rfl (by decide) hS
  | false =>
    have h := cd_f hb4 h
    refine py_if (pc := 8) (len := 3) false rfl hb4 ?_
    refine py_its (pc := 11) (pc1 := 12) (lv1 := [(0, .ref 0), (1, .int a1), (2, .int a2), (3, .int a3)]) (st1 := [.int a2]) 1 (fun _ _ _ _ => rfl) ?_
    obtain ⟨q5, hq6, h⟩ := bd_e h
    have hC7 := (fx_X_isDay hS hq6).1
    refine py_st (pc := 12) (mi := mi_X_isDay) (N := mm_X_isDay) rfl rfl rfl (Nat.le_of_ble_eq_true rfl) (Nat.le_of_ble_eq_true rfl) rfl rfl hC7 ?_
    show px_Y mm_X_away 15 [(0, .ref 0), (1, .int a1), (2, .int a2), (3, .int a3)] [.int q5] hp _ _
    cases hb8 : px_cmp .eq q5 0 with
    | true =>
      have h := cd_t hb8 h
      refine py_if (pc := 15) (len := 3) true rfl hb8 ?_
      refine py_its (pc := 25) (pc1 := 26) (lv1 := [(0, .ref 0), (1, .int a1), (2, .int a2), (3, .int a3)]) (st1 := [.int (Int32.ofInt 0)]) 1 (fun _ _ _ _ => rfl) ?_
      have h := Option.some.inj h
      subst h
      exact py_ir (pc := 26) (len := 1) (ty := .boolean) rfl rfl (by decide) hS
    | false =>
      have h := cd_f hb8 h
      refine py_if (pc := 15) (len := 3) false rfl hb8 ?_
      refine py_its (pc := 18) (pc1 := 19) (lv1 := [(0, .ref 0), (1, .int a1), (2, .int a2), (3, .int a3)]) (st1 := [.int a3]) 1 (fun _ _ _ _ => rfl) ?_
      obtain ⟨q9, hq10, h⟩ := bd_e h
      have hC11 := (fx_X_isDay hS hq10).1
      refine py_st (pc := 19) (mi := mi_X_isDay) (N := mm_X_isDay) rfl rfl rfl (Nat.le_of_ble_eq_true rfl) (Nat.le_of_ble_eq_true rfl) rfl rfl hC11 ?_
      show px_Y mm_X_away 22 [(0, .ref 0), (1, .int a1), (2, .int a2), (3, .int a3)] [.int q9] hp _ _
      cases hb12 : px_cmp .ne q9 0 with
      | true =>
        have h := cd_t hb12 h
        refine py_if (pc := 22) (len := 3) true rfl hb12 ?_
        refine py_its (pc := 27) (pc1 := 28) (lv1 := [(0, .ref 0), (1, .int a1), (2, .int a2), (3, .int a3)]) (st1 := [.ref 0]) 1 (fun _ _ _ _ => rfl) ?_
        refine py_g1 1 (pc := 28) (len := 3) (cs := [0]) rfl rfl rfl List.mem_cons_self hS ?_
        refine py_g1 4 (pc := 31) (len := 3) (cs := [1]) rfl rfl rfl List.mem_cons_self hS ?_
        refine py_its (pc := 34) (pc1 := 36) (lv1 := [(0, .ref 0), (1, .int a1), (2, .int a2), (3, .int a3)]) (st1 := [.int a2, .int a1, .ref 4]) 2 (fun _ _ _ _ => rfl) ?_
        obtain ⟨hi13, h⟩ := cd_n h
        have h := sb_e h
        refine py_si (pc := 36) (len := 1) (cs := [4]) (t := 14) (n := 10) rfl rfl rfl hi13 List.mem_cons_self hS ?_
        have hS15 : oS (uI hp 4 a1.toNatClampNeg a2) := oS_uI (cs := [4]) (t := 14) (n := 10) rfl List.mem_cons_self hS
        generalize (uI hp 4 a1.toNatClampNeg a2) = h14 at h hS15 ⊢
        refine py_its (pc := 37) (pc1 := 38) (lv1 := [(0, .ref 0), (1, .int a1), (2, .int a2), (3, .int a3)]) (st1 := [.ref 0]) 1 (fun _ _ _ _ => rfl) ?_
        refine py_g1 1 (pc := 38) (len := 3) (cs := [0]) rfl rfl rfl List.mem_cons_self hS15 ?_
        refine py_g1 5 (pc := 41) (len := 3) (cs := [1]) rfl rfl rfl List.mem_cons_self hS15 ?_
        refine py_its (pc := 44) (pc1 := 46) (lv1 := [(0, .ref 0), (1, .int a1), (2, .int a2), (3, .int a3)]) (st1 := [.int a3, .int a1, .ref 5]) 2 (fun _ _ _ _ => rfl) ?_
        obtain ⟨hi16, h⟩ := cd_n h
        have h := sb_e h
        refine py_si (pc := 46) (len := 1) (cs := [5]) (t := 15) (n := 10) rfl rfl rfl hi16 List.mem_cons_self hS15 ?_
        have hS18 : oS (uI h14 5 a1.toNatClampNeg a3) := oS_uI (cs := [5]) (t := 15) (n := 10) rfl List.mem_cons_self hS15
        generalize (uI h14 5 a1.toNatClampNeg a3) = h17 at h hS18 ⊢
        refine py_its (pc := 47) (pc1 := 48) (lv1 := [(0, .ref 0), (1, .int a1), (2, .int a2), (3, .int a3)]) (st1 := [.int (Int32.ofInt 1)]) 1 (fun _ _ _ _ => rfl) ?_
        have h := Option.some.inj h
        subst h
        exact py_ir (pc := 48) (len := 1) (ty := .boolean) rfl rfl (by decide) hS18
      | false =>
        have h := cd_f hb12 h
        refine py_if (pc := 22) (len := 3) false rfl hb12 ?_
        refine py_its (pc := 25) (pc1 := 26) (lv1 := [(0, .ref 0), (1, .int a1), (2, .int a2), (3, .int a3)]) (st1 := [.int (Int32.ofInt 0)]) 1 (fun _ _ _ _ => rfl) ?_
        have h := Option.some.inj h
        subst h
        exact py_ir (pc := 26) (len := 1) (ty := .boolean) rfl rfl (by decide) hS
/-! X_dies -/
noncomputable def fn_X_dies (a1 : Int32) (a2 : Int32) (hp : px_H) : Option (Int32 × px_H) :=
  (fn_Town_hasPerson a1 hp).bind fun q1 =>
  bif px_cmp .eq q1 0 then
    some ((Int32.ofInt (-1)), hp)
  else
    bif px_cmp .lt a2 0 then
      some ((Int32.ofInt (-1)), hp)
    else
      bif px_cmp .le a2 (Int16.ofInt 1000).toInt32 then
        bif px_inR a1 10 then
        bif px_inR a1 10 then
        sb (uI hp 6 a1.toNatClampNeg a2) fun h9 =>
        some ((aI hp 6 a1.toNatClampNeg), h9)
        else none
        else none
      else
        some ((Int32.ofInt (-1)), hp)
theorem fx_X_dies {a1 : Int32} {a2 : Int32} {hp : px_H} {res : Int32 × px_H} (hS : oS hp) (h : fn_X_dies a1 a2 hp = some res) : px_C nm_T nm_P mi_X_dies [.ref 0, .int a1, .int a2] hp (some (.int res.1)) res.2 ∧ oS res.2 := by
  unfold fn_X_dies at h
  refine py_C (M := mm_X_dies) rfl (Nat.le_of_ble_eq_true rfl) ?_
  show px_Y mm_X_dies 0 [(0, .ref 0), (1, .int a1), (2, .int a2)] [] hp _ _
  refine py_its (pc := 0) (pc1 := 1) (lv1 := [(0, .ref 0), (1, .int a1), (2, .int a2)]) (st1 := [.ref 0]) 1 (fun _ _ _ _ => rfl) ?_
  refine py_g1 1 (pc := 1) (len := 3) (cs := [0]) rfl rfl rfl List.mem_cons_self hS ?_
  refine py_its (pc := 4) (pc1 := 5) (lv1 := [(0, .ref 0), (1, .int a1), (2, .int a2)]) (st1 := [.int a1, .ref 1]) 1 (fun _ _ _ _ => rfl) ?_
  obtain ⟨q1, hq2, h⟩ := bd_e h
  have hC3 := (fx_Town_hasPerson hS hq2).1
  refine py_vi (pc := 5) (mi := mi_Town_hasPerson) (cs := [1]) (N := mm_Town_hasPerson) rfl rfl rfl rfl List.mem_cons_self hS rfl (Nat.le_of_ble_eq_true rfl) (Nat.le_of_ble_eq_true rfl) rfl rfl hC3 ?_
  show px_Y mm_X_dies 8 [(0, .ref 0), (1, .int a1), (2, .int a2)] [.int q1] hp _ _
  cases hb4 : px_cmp .eq q1 0 with
  | true =>
    have h := cd_t hb4 h
    refine py_if (pc := 8) (len := 3) true rfl hb4 ?_
    refine py_its (pc := 22) (pc1 := 23) (lv1 := [(0, .ref 0), (1, .int a1), (2, .int a2)]) (st1 := [.int (Int32.ofInt (-1))]) 1 (fun _ _ _ _ => rfl) ?_
    have h := Option.some.inj h
    subst h
    exact py_ir (pc := 23) (len := 1) (ty := .int) rfl rfl rfl hS
  | false =>
    have h := cd_f hb4 h
    refine py_if (pc := 8) (len := 3) false rfl hb4 ?_
    refine py_its (pc := 11) (pc1 := 12) (lv1 := [(0, .ref 0), (1, .int a1), (2, .int a2)]) (st1 := [.int a2]) 1 (fun _ _ _ _ => rfl) ?_
    cases hb5 : px_cmp .lt a2 0 with
    | true =>
      have h := cd_t hb5 h
      refine py_if (pc := 12) (len := 3) true rfl hb5 ?_
      refine py_its (pc := 22) (pc1 := 23) (lv1 := [(0, .ref 0), (1, .int a1), (2, .int a2)]) (st1 := [.int (Int32.ofInt (-1))]) 1 (fun _ _ _ _ => rfl) ?_
      have h := Option.some.inj h
      subst h
      exact py_ir (pc := 23) (len := 1) (ty := .int) rfl rfl rfl hS
    | false =>
      have h := cd_f hb5 h
      refine py_if (pc := 12) (len := 3) false rfl hb5 ?_
      refine py_its (pc := 15) (pc1 := 19) (lv1 := [(0, .ref 0), (1, .int a1), (2, .int a2)]) (st1 := [.int (Int16.ofInt 1000).toInt32, .int a2]) 2 (fun _ _ _ _ => rfl) ?_
      cases hb6 : px_cmp .le a2 (Int16.ofInt 1000).toInt32 with
      | true =>
        have h := cd_t hb6 h
        refine py_ic (pc := 19) (len := 3) true rfl hb6 ?_
        refine py_its (pc := 24) (pc1 := 25) (lv1 := [(0, .ref 0), (1, .int a1), (2, .int a2)]) (st1 := [.ref 0]) 1 (fun _ _ _ _ => rfl) ?_
        refine py_g1 1 (pc := 25) (len := 3) (cs := [0]) rfl rfl rfl List.mem_cons_self hS ?_
        refine py_g1 6 (pc := 28) (len := 3) (cs := [1]) rfl rfl rfl List.mem_cons_self hS ?_
        refine py_its (pc := 31) (pc1 := 32) (lv1 := [(0, .ref 0), (1, .int a1), (2, .int a2)]) (st1 := [.int a1, .ref 6]) 1 (fun _ _ _ _ => rfl) ?_
        obtain ⟨hi7, h⟩ := cd_n h
        refine py_ai (pc := 32) (len := 1) (cs := [6]) (t := 16) (n := 10) rfl rfl rfl hi7 List.mem_cons_self hS ?_
        refine py_its (pc := 33) (pc1 := 35) (lv1 := [(3, .int (aI hp 6 a1.toNatClampNeg)), (0, .ref 0), (1, .int a1), (2, .int a2)]) (st1 := [.ref 0]) 2 (fun _ _ _ _ => rfl) ?_
        refine py_g1 1 (pc := 35) (len := 3) (cs := [0]) rfl rfl rfl List.mem_cons_self hS ?_
        refine py_g1 6 (pc := 38) (len := 3) (cs := [1]) rfl rfl rfl List.mem_cons_self hS ?_
        refine py_its (pc := 41) (pc1 := 43) (lv1 := [(3, .int (aI hp 6 a1.toNatClampNeg)), (0, .ref 0), (1, .int a1), (2, .int a2)]) (st1 := [.int a2, .int a1, .ref 6]) 2 (fun _ _ _ _ => rfl) ?_
        obtain ⟨hi8, h⟩ := cd_n h
        have h := sb_e h
        refine py_si (pc := 43) (len := 1) (cs := [6]) (t := 16) (n := 10) rfl rfl rfl hi8 List.mem_cons_self hS ?_
        have hS10 : oS (uI hp 6 a1.toNatClampNeg a2) := oS_uI (cs := [6]) (t := 16) (n := 10) rfl List.mem_cons_self hS
        generalize (uI hp 6 a1.toNatClampNeg a2) = h9 at h hS10 ⊢
        refine py_its (pc := 44) (pc1 := 45) (lv1 := [(3, .int (aI hp 6 a1.toNatClampNeg)), (0, .ref 0), (1, .int a1), (2, .int a2)]) (st1 := [.int (aI hp 6 a1.toNatClampNeg)]) 1 (fun _ _ _ _ => rfl) ?_
        have h := Option.some.inj h
        subst h
        exact py_ir (pc := 45) (len := 1) (ty := .int) rfl rfl rfl hS10
      | false =>
        have h := cd_f hb6 h
        refine py_ic (pc := 19) (len := 3) false rfl hb6 ?_
        refine py_its (pc := 22) (pc1 := 23) (lv1 := [(0, .ref 0), (1, .int a1), (2, .int a2)]) (st1 := [.int (Int32.ofInt (-1))]) 1 (fun _ _ _ _ => rfl) ?_
        have h := Option.some.inj h
        subst h
        exact py_ir (pc := 23) (len := 1) (ty := .int) rfl rfl rfl hS
/-! Town_clearDebts -/
noncomputable def fb_Town_clearDebts_L2  (rc : Int32 → px_H → Option (px_H)) (v1 : Int32) (hp : px_H) : Option (px_H) :=
  bif px_cmp .ge v1 (gI hp 1 0) then
    some hp
  else
    bif px_inR v1 10 then
    sb (uI hp 3 v1.toNatClampNeg (Int32.ofInt 0)) fun h3 =>
    rc (v1 + Int32.ofInt 1) h3
    else none
noncomputable def fn_Town_clearDebts_L2  : Nat → Int32 → px_H → Option (px_H)
  | 0 => fun _ _ => none
  | n + 1 => fb_Town_clearDebts_L2  (fn_Town_clearDebts_L2  n)
theorem fl_Town_clearDebts_L2   : ∀ (n : Nat) (v1 : Int32) (hp : px_H) (lv : List (Nat × Value)) (res : px_H), oS hp → lk lv [(0, .ref 1), (1, .int v1)] → fn_Town_clearDebts_L2  n v1 hp = some res → px_Y mm_Town_clearDebts 2 lv [] hp none res := by
  intro n
  induction n with
  | zero =>
    intro v1 hp lv res hS hk h
    cases h
  | succ n ih =>
    intro v1 hp lv res hS hk h
    have h : fb_Town_clearDebts_L2  (fn_Town_clearDebts_L2  n) v1 hp = some res := h
    unfold fb_Town_clearDebts_L2 at h
    refine py_iln (pc := 2) (len := 1) (j := 1) rfl hk rfl ?_
    refine py_aln (pc := 3) (len := 1) (j := 0) rfl hk rfl ?_
    refine py_gI (pc := 4) (len := 3) (cs := [1]) rfl rfl rfl List.mem_cons_self hS ?_
    cases hb1 : px_cmp .ge v1 (gI hp 1 0) with
    | true =>
      have h := cd_t hb1 h
      refine py_ic (pc := 7) (len := 3) true rfl hb1 ?_
      have h := Option.some.inj h
      subst h
      exact py_rt (pc := 23) (len := 1) rfl rfl hS
    | false =>
      have h := cd_f hb1 h
      refine py_ic (pc := 7) (len := 3) false rfl hb1 ?_
      refine py_aln (pc := 10) (len := 1) (j := 0) rfl hk rfl ?_
      refine py_g1 3 (pc := 11) (len := 3) (cs := [1]) rfl rfl rfl List.mem_cons_self hS ?_
      refine py_iln (pc := 14) (len := 1) (j := 1) rfl hk rfl ?_
      refine py_its (pc := 15) (pc1 := 16) (lv1 := lv) (st1 := [.int (Int32.ofInt 0), .int v1, .ref 3]) 1 (fun _ _ _ _ => rfl) ?_
      obtain ⟨hi2, h⟩ := cd_n h
      have h := sb_e h
      refine py_si (pc := 16) (len := 1) (cs := [3]) (t := 13) (n := 10) rfl rfl rfl hi2 List.mem_cons_self hS ?_
      have hS4 : oS (uI hp 3 v1.toNatClampNeg (Int32.ofInt 0)) := oS_uI (cs := [3]) (t := 13) (n := 10) rfl List.mem_cons_self hS
      generalize (uI hp 3 v1.toNatClampNeg (Int32.ofInt 0)) = h3 at h hS4 ⊢
      refine py_inc (pc := 17) (len := 3) (j := 1) (n := 1) rfl rfl hk rfl (fun lv5 hk6 => ?_)
      have hk6 : lk lv5 [(1, .int (v1 + Int32.ofInt 1)), (0, .ref 1)] := hk6
      refine py_its (pc := 20) (pc1 := 2) (lv1 := lv5) (st1 := []) 1 (fun _ _ _ _ => rfl) ?_
      exact ih (v1 + Int32.ofInt 1) h3 lv5 _ hS4 ⟨lk_find hk6 rfl, lk_find hk6 rfl, trivial⟩ h
noncomputable def fn_Town_clearDebts  (hp : px_H) : Option (px_H) :=
  fn_Town_clearDebts_L2 fu (Int32.ofInt 0) hp
theorem fx_Town_clearDebts  {hp : px_H} {res : px_H} (hS : oS hp) (h : fn_Town_clearDebts hp = some res) : px_C nm_T nm_P mi_Town_clearDebts [.ref 1] hp none res ∧ oS res := by
  unfold fn_Town_clearDebts at h
  refine py_C (M := mm_Town_clearDebts) rfl (Nat.le_of_ble_eq_true rfl) ?_
  show px_Y mm_Town_clearDebts 0 [(0, .ref 1)] [] hp _ _
  refine py_its (pc := 0) (pc1 := 2) (lv1 := [(1, .int (Int32.ofInt 0)), (0, .ref 1)]) (st1 := []) 2 (fun _ _ _ _ => rfl) ?_
  exact fl_Town_clearDebts_L2 fu (Int32.ofInt 0) hp [(1, .int (Int32.ofInt 0)), (0, .ref 1)] _ hS ⟨rfl, rfl, trivial⟩ h
/-! X_dayOnSheet -/
noncomputable def fn_X_dayOnSheet (a0 : Int32) (a1 : Int32) (hp : px_H) : Option (Int32) :=
  bif px_cmp .ne a0 0 then
    bif px_cmp .ne a0 (Int32.ofInt 1) then
      some (if (Int32.ofInt 0) < (if a1 < (Int16.ofInt 999).toInt32 then a1 else (Int16.ofInt 999).toInt32) then (if a1 < (Int16.ofInt 999).toInt32 then a1 else (Int16.ofInt 999).toInt32) else (Int32.ofInt 0))
    else
      some (if (Int32.ofInt 0) < (if a1.toInt16.toInt32 < (Int16.ofInt 999).toInt32 then a1.toInt16.toInt32 else (Int16.ofInt 999).toInt32) then (if a1.toInt16.toInt32 < (Int16.ofInt 999).toInt32 then a1.toInt16.toInt32 else (Int16.ofInt 999).toInt32) else (Int32.ofInt 0))
  else
    some (if (Int32.ofInt 0) < (if a1.toInt8.toInt32 < (Int16.ofInt 999).toInt32 then a1.toInt8.toInt32 else (Int16.ofInt 999).toInt32) then (if a1.toInt8.toInt32 < (Int16.ofInt 999).toInt32 then a1.toInt8.toInt32 else (Int16.ofInt 999).toInt32) else (Int32.ofInt 0))
theorem fx_X_dayOnSheet {a0 : Int32} {a1 : Int32} {hp : px_H} {res : Int32} (hS : oS hp) (h : fn_X_dayOnSheet a0 a1 hp = some res) : px_C nm_T nm_P mi_X_dayOnSheet [.int a0, .int a1] hp (some (.int res)) hp ∧ oS hp := by
  unfold fn_X_dayOnSheet at h
  refine py_C (M := mm_X_dayOnSheet) rfl (Nat.le_of_ble_eq_true rfl) ?_
  show px_Y mm_X_dayOnSheet 0 [(0, .int a0), (1, .int a1)] [] hp _ _
  refine py_its (pc := 0) (pc1 := 3) (lv1 := [(2, .int a1), (0, .int a0), (1, .int a1)]) (st1 := [.int a0]) 3 (fun _ _ _ _ => rfl) ?_
  cases hb1 : px_cmp .ne a0 0 with
  | true =>
    have h := cd_t hb1 h
    refine py_if (pc := 3) (len := 3) true rfl hb1 ?_
    refine py_its (pc := 12) (pc1 := 14) (lv1 := [(2, .int a1), (0, .int a0), (1, .int a1)]) (st1 := [.int (Int32.ofInt 1), .int a0]) 2 (fun _ _ _ _ => rfl) ?_
    cases hb2 : px_cmp .ne a0 (Int32.ofInt 1) with
    | true =>
      have h := cd_t hb2 h
      refine py_ic (pc := 14) (len := 3) true rfl hb2 ?_
      refine py_its (pc := 20) (pc1 := 25) (lv1 := [(2, .int a1), (0, .int a0), (1, .int a1)]) (st1 := [.int a1, .int (Int16.ofInt 999).toInt32, .int (Int32.ofInt 0)]) 3 (fun _ _ _ _ => rfl) ?_
      refine py_mth (pc := 25) (w := 1) (st' := [.int (if a1 < (Int16.ofInt 999).toInt32 then a1 else (Int16.ofInt 999).toInt32), .int (Int32.ofInt 0)]) rfl rfl rfl (Nat.le_of_ble_eq_true rfl) ?_
      refine py_mth (pc := 28) (w := 0) (st' := [.int (if (Int32.ofInt 0) < (if a1 < (Int16.ofInt 999).toInt32 then a1 else (Int16.ofInt 999).toInt32) then (if a1 < (Int16.ofInt 999).toInt32 then a1 else (Int16.ofInt 999).toInt32) else (Int32.ofInt 0))]) rfl rfl rfl (Nat.le_of_ble_eq_true rfl) ?_
      have h := Option.some.inj h
      subst h
      exact py_ir (pc := 31) (len := 1) (ty := .int) rfl rfl rfl hS
    | false =>
      have h := cd_f hb2 h
      refine py_ic (pc := 14) (len := 3) false rfl hb2 ?_
      refine py_its (pc := 17) (pc1 := 25) (lv1 := [(2, .int a1.toInt16.toInt32), (0, .int a0), (1, .int a1)]) (st1 := [.int a1.toInt16.toInt32, .int (Int16.ofInt 999).toInt32, .int (Int32.ofInt 0)]) 6 (fun _ _ _ _ => rfl) ?_
      refine py_mth (pc := 25) (w := 1) (st' := [.int (if a1.toInt16.toInt32 < (Int16.ofInt 999).toInt32 then a1.toInt16.toInt32 else (Int16.ofInt 999).toInt32), .int (Int32.ofInt 0)]) rfl rfl rfl (Nat.le_of_ble_eq_true rfl) ?_
      refine py_mth (pc := 28) (w := 0) (st' := [.int (if (Int32.ofInt 0) < (if a1.toInt16.toInt32 < (Int16.ofInt 999).toInt32 then a1.toInt16.toInt32 else (Int16.ofInt 999).toInt32) then (if a1.toInt16.toInt32 < (Int16.ofInt 999).toInt32 then a1.toInt16.toInt32 else (Int16.ofInt 999).toInt32) else (Int32.ofInt 0))]) rfl rfl rfl (Nat.le_of_ble_eq_true rfl) ?_
      have h := Option.some.inj h
      subst h
      exact py_ir (pc := 31) (len := 1) (ty := .int) rfl rfl rfl hS
  | false =>
    have h := cd_f hb1 h
    refine py_if (pc := 3) (len := 3) false rfl hb1 ?_
    refine py_its (pc := 6) (pc1 := 25) (lv1 := [(2, .int a1.toInt8.toInt32), (0, .int a0), (1, .int a1)]) (st1 := [.int a1.toInt8.toInt32, .int (Int16.ofInt 999).toInt32, .int (Int32.ofInt 0)]) 7 (fun _ _ _ _ => rfl) ?_
    refine py_mth (pc := 25) (w := 1) (st' := [.int (if a1.toInt8.toInt32 < (Int16.ofInt 999).toInt32 then a1.toInt8.toInt32 else (Int16.ofInt 999).toInt32), .int (Int32.ofInt 0)]) rfl rfl rfl (Nat.le_of_ble_eq_true rfl) ?_
    refine py_mth (pc := 28) (w := 0) (st' := [.int (if (Int32.ofInt 0) < (if a1.toInt8.toInt32 < (Int16.ofInt 999).toInt32 then a1.toInt8.toInt32 else (Int16.ofInt 999).toInt32) then (if a1.toInt8.toInt32 < (Int16.ofInt 999).toInt32 then a1.toInt8.toInt32 else (Int16.ofInt 999).toInt32) else (Int32.ofInt 0))]) rfl rfl rfl (Nat.le_of_ble_eq_true rfl) ?_
    have h := Option.some.inj h
    subst h
    exact py_ir (pc := 31) (len := 1) (ty := .int) rfl rfl rfl hS
/-! X_sheet -/
noncomputable def fb_X_sheet_L55 (v1 : Int32) (v2 : Int32) (v4 : Int32) (rc : Int32 → Int32 → Int32 → px_H → Option (Int32 × px_H)) (v5 : Int32) (v6 : Int32) (v7 : Int32) (hp : px_H) : Option (Int32 × px_H) :=
  bif px_cmp .ge v7 (gI hp 1 0) then
    some (v5, hp)
  else
    bif px_cmp .ge v7 v2 then
      some (v5, hp)
    else
      (fn_X_dayOnSheet v1 v6 hp).bind fun q16 =>
      bif px_inR v7 10 then
      sb (uI hp 3 v7.toNatClampNeg q16) fun h20 =>
      bif px_inR v7 10 then
      rc (v5 + (aI h20 3 v7.toNatClampNeg)) (v6 + v4) (v7 + Int32.ofInt 1) h20
      else none
      else none
noncomputable def fn_X_sheet_L55 (v1 : Int32) (v2 : Int32) (v4 : Int32) : Nat → Int32 → Int32 → Int32 → px_H → Option (Int32 × px_H)
  | 0 => fun _ _ _ _ => none
  | n + 1 => fb_X_sheet_L55 v1 v2 v4 (fn_X_sheet_L55 v1 v2 v4 n)
theorem fl_X_sheet_L55 {v1 : Int32} {v2 : Int32} {v4 : Int32}  : ∀ (n : Nat) (v5 : Int32) (v6 : Int32) (v7 : Int32) (hp : px_H) (lv : List (Nat × Value)) (res : Int32 × px_H), oS hp → lk lv [(0, .ref 0), (1, .int v1), (2, .int v2), (4, .int v4), (5, .int v5), (6, .int v6), (7, .int v7)] → fn_X_sheet_L55 v1 v2 v4 n v5 v6 v7 hp = some res → px_Y mm_X_sheet 55 lv [] hp (some (.int res.1)) res.2 := by
  intro n
  induction n with
  | zero =>
    intro v5 v6 v7 hp lv res hS hk h
    cases h
  | succ n ih =>
    intro v5 v6 v7 hp lv res hS hk h
    have h : fb_X_sheet_L55 v1 v2 v4 (fn_X_sheet_L55 v1 v2 v4 n) v5 v6 v7 hp = some res := h
    unfold fb_X_sheet_L55 at h
    refine py_il (pc := 55) (len := 2) (j := 7) rfl hk rfl ?_
    refine py_aln (pc := 57) (len := 1) (j := 0) rfl hk rfl ?_
    refine py_g1 1 (pc := 58) (len := 3) (cs := [0]) rfl rfl rfl List.mem_cons_self hS ?_
    refine py_gI (pc := 61) (len := 3) (cs := [1]) rfl rfl rfl List.mem_cons_self hS ?_
    cases hb14 : px_cmp .ge v7 (gI hp 1 0) with
    | true =>
      have h := cd_t hb14 h
      refine py_ic (pc := 64) (len := 3) true rfl hb14 ?_
      refine py_il (pc := 117) (len := 2) (j := 5) rfl hk rfl ?_
      have h := Option.some.inj h
      subst h
      exact py_ir (pc := 119) (len := 1) (ty := .int) rfl rfl rfl hS
    | false =>
      have h := cd_f hb14 h
      refine py_ic (pc := 64) (len := 3) false rfl hb14 ?_
      refine py_il (pc := 67) (len := 2) (j := 7) rfl hk rfl ?_
      refine py_iln (pc := 69) (len := 1) (j := 2) rfl hk rfl ?_
      cases hb15 : px_cmp .ge v7 v2 with
      | true =>
        have h := cd_t hb15 h
        refine py_ic (pc := 70) (len := 3) true rfl hb15 ?_
        refine py_il (pc := 117) (len := 2) (j := 5) rfl hk rfl ?_
        have h := Option.some.inj h
        subst h
        exact py_ir (pc := 119) (len := 1) (ty := .int) rfl rfl rfl hS
      | false =>
        have h := cd_f hb15 h
        refine py_ic (pc := 70) (len := 3) false rfl hb15 ?_
        refine py_aln (pc := 73) (len := 1) (j := 0) rfl hk rfl ?_
        refine py_g1 1 (pc := 74) (len := 3) (cs := [0]) rfl rfl rfl List.mem_cons_self hS ?_
        refine py_g1 3 (pc := 77) (len := 3) (cs := [1]) rfl rfl rfl List.mem_cons_self hS ?_
        refine py_il (pc := 80) (len := 2) (j := 7) rfl hk rfl ?_
        refine py_iln (pc := 82) (len := 1) (j := 1) rfl hk rfl ?_
        refine py_il (pc := 83) (len := 2) (j := 6) rfl hk rfl ?_
        obtain ⟨q16, hq17, h⟩ := bd_e h
        have hC18 := (fx_X_dayOnSheet hS hq17).1
        refine py_st (pc := 85) (mi := mi_X_dayOnSheet) (N := mm_X_dayOnSheet) rfl rfl rfl (Nat.le_of_ble_eq_true rfl) (Nat.le_of_ble_eq_true rfl) rfl rfl hC18 ?_
        show px_Y mm_X_sheet 88 lv [.int q16, .int v7, .ref 3] hp _ _
        obtain ⟨hi19, h⟩ := cd_n h
        have h := sb_e h
        refine py_si (pc := 88) (len := 1) (cs := [3]) (t := 13) (n := 10) rfl rfl rfl hi19 List.mem_cons_self hS ?_
        have hS21 : oS (uI hp 3 v7.toNatClampNeg q16) := oS_uI (cs := [3]) (t := 13) (n := 10) rfl List.mem_cons_self hS
        generalize (uI hp 3 v7.toNatClampNeg q16) = h20 at h hS21 ⊢
        refine py_il (pc := 89) (len := 2) (j := 5) rfl hk rfl ?_
        refine py_aln (pc := 91) (len := 1) (j := 0) rfl hk rfl ?_
        refine py_g1 1 (pc := 92) (len := 3) (cs := [0]) rfl rfl rfl List.mem_cons_self hS21 ?_
        refine py_g1 3 (pc := 95) (len := 3) (cs := [1]) rfl rfl rfl List.mem_cons_self hS21 ?_
        refine py_il (pc := 98) (len := 2) (j := 7) rfl hk rfl ?_
        obtain ⟨hi22, h⟩ := cd_n h
        refine py_ai (pc := 100) (len := 1) (cs := [3]) (t := 13) (n := 10) rfl rfl rfl hi22 List.mem_cons_self hS21 ?_
        refine py_its (pc := 101) (pc1 := 102) (lv1 := lv) (st1 := [.int (v5 + (aI h20 3 v7.toNatClampNeg))]) 1 (fun _ _ _ _ => rfl) ?_
        refine py_sti (pc := 102) (len := 2) (j := 5) rfl rfl hk (fun lv23 hk24 => ?_)
        have hk24 : lk lv23 [(5, .int (v5 + (aI h20 3 v7.toNatClampNeg))), (0, .ref 0), (1, .int v1), (2, .int v2), (4, .int v4), (6, .int v6), (7, .int v7)] := hk24
        refine py_il (pc := 104) (len := 2) (j := 6) rfl hk24 rfl ?_
        refine py_il (pc := 106) (len := 2) (j := 4) rfl hk24 rfl ?_
        refine py_its (pc := 108) (pc1 := 109) (lv1 := lv23) (st1 := [.int (v6 + v4)]) 1 (fun _ _ _ _ => rfl) ?_
        refine py_sti (pc := 109) (len := 2) (j := 6) rfl rfl hk24 (fun lv25 hk26 => ?_)
        have hk26 : lk lv25 [(6, .int (v6 + v4)), (5, .int (v5 + (aI h20 3 v7.toNatClampNeg))), (0, .ref 0), (1, .int v1), (2, .int v2), (4, .int v4), (7, .int v7)] := hk26
        refine py_inc (pc := 111) (len := 3) (j := 7) (n := 1) rfl rfl hk26 rfl (fun lv27 hk28 => ?_)
        have hk28 : lk lv27 [(7, .int (v7 + Int32.ofInt 1)), (6, .int (v6 + v4)), (5, .int (v5 + (aI h20 3 v7.toNatClampNeg))), (0, .ref 0), (1, .int v1), (2, .int v2), (4, .int v4)] := hk28
        refine py_its (pc := 114) (pc1 := 55) (lv1 := lv27) (st1 := []) 1 (fun _ _ _ _ => rfl) ?_
        exact ih (v5 + (aI h20 3 v7.toNatClampNeg)) (v6 + v4) (v7 + Int32.ofInt 1) h20 lv27 _ hS21 ⟨lk_find hk28 rfl, lk_find hk28 rfl, lk_find hk28 rfl, lk_find hk28 rfl, lk_find hk28 rfl, lk_find hk28 rfl, lk_find hk28 rfl, trivial⟩ h
noncomputable def fn_X_sheet (a1 : Int32) (a2 : Int32) (a3 : Int32) (a4 : Int32) (hp : px_H) : Option (Int32 × px_H) :=
  bif px_cmp .lt a1 0 then
    some ((Int32.ofInt (-1)), hp)
  else
    bif px_cmp .gt a1 (Int32.ofInt 3) then
      some ((Int32.ofInt (-1)), hp)
    else
      bif px_cmp .le a2 (Int8.ofInt 10).toInt32 then
        bif px_cmp .ne a1 (Int32.ofInt 3) then
          bif px_cmp .ge a2 0 then
            (fn_Town_clearDebts hp).bind fun q6 =>
            fn_X_sheet_L55 a1 a2 a4 fu (Int32.ofInt 0) a3 (Int32.ofInt 0) q6
          else
            some ((Int8.ofInt (-2)).toInt32, hp)
        else
          (fn_Town_clearDebts hp).bind fun q10 =>
          some ((Int8.ofInt (-3)).toInt32, q10)
      else
        some ((Int32.ofInt (-1)), hp)
theorem fx_X_sheet {a1 : Int32} {a2 : Int32} {a3 : Int32} {a4 : Int32} {hp : px_H} {res : Int32 × px_H} (hS : oS hp) (h : fn_X_sheet a1 a2 a3 a4 hp = some res) : px_C nm_T nm_P mi_X_sheet [.ref 0, .int a1, .int a2, .int a3, .int a4] hp (some (.int res.1)) res.2 ∧ oS res.2 := by
  unfold fn_X_sheet at h
  refine py_C (M := mm_X_sheet) rfl (Nat.le_of_ble_eq_true rfl) ?_
  show px_Y mm_X_sheet 0 [(0, .ref 0), (1, .int a1), (2, .int a2), (3, .int a3), (4, .int a4)] [] hp _ _
  refine py_its (pc := 0) (pc1 := 1) (lv1 := [(0, .ref 0), (1, .int a1), (2, .int a2), (3, .int a3), (4, .int a4)]) (st1 := [.int a1]) 1 (fun _ _ _ _ => rfl) ?_
  cases hb1 : px_cmp .lt a1 0 with
  | true =>
    have h := cd_t hb1 h
    refine py_if (pc := 1) (len := 3) true rfl hb1 ?_
    refine py_its (pc := 15) (pc1 := 16) (lv1 := [(0, .ref 0), (1, .int a1), (2, .int a2), (3, .int a3), (4, .int a4)]) (st1 := [.int (Int32.ofInt (-1))]) 1 (fun _ _ _ _ => rfl) ?_
    have h := Option.some.inj h
    subst h
    exact py_ir (pc := 16) (len := 1) (ty := .int) rfl rfl rfl hS
  | false =>
    have h := cd_f hb1 h
    refine py_if (pc := 1) (len := 3) false rfl hb1 ?_
    refine py_its (pc := 4) (pc1 := 6) (lv1 := [(0, .ref 0), (1, .int a1), (2, .int a2), (3, .int a3), (4, .int a4)]) (st1 := [.int (Int32.ofInt 3), .int a1]) 2 (fun _ _ _ _ => rfl) ?_
    cases hb2 : px_cmp .gt a1 (Int32.ofInt 3) with
    | true =>
      have h := cd_t hb2 h
      refine py_ic (pc := 6) (len := 3) true rfl hb2 ?_
      refine py_its (pc := 15) (pc1 := 16) (lv1 := [(0, .ref 0), (1, .int a1), (2, .int a2), (3, .int a3), (4, .int a4)]) (st1 := [.int (Int32.ofInt (-1))]) 1 (fun _ _ _ _ => rfl) ?_
      have h := Option.some.inj h
      subst h
      exact py_ir (pc := 16) (len := 1) (ty := .int) rfl rfl rfl hS
    | false =>
      have h := cd_f hb2 h
      refine py_ic (pc := 6) (len := 3) false rfl hb2 ?_
      refine py_its (pc := 9) (pc1 := 12) (lv1 := [(0, .ref 0), (1, .int a1), (2, .int a2), (3, .int a3), (4, .int a4)]) (st1 := [.int (Int8.ofInt 10).toInt32, .int a2]) 2 (fun _ _ _ _ => rfl) ?_
      cases hb3 : px_cmp .le a2 (Int8.ofInt 10).toInt32 with
      | true =>
        have h := cd_t hb3 h
        refine py_ic (pc := 12) (len := 3) true rfl hb3 ?_
        refine py_its (pc := 17) (pc1 := 19) (lv1 := [(0, .ref 0), (1, .int a1), (2, .int a2), (3, .int a3), (4, .int a4)]) (st1 := [.int (Int32.ofInt 3), .int a1]) 2 (fun _ _ _ _ => rfl) ?_
        cases hb4 : px_cmp .ne a1 (Int32.ofInt 3) with
        | true =>
          have h := cd_t hb4 h
          refine py_ic (pc := 19) (len := 3) true rfl hb4 ?_
          refine py_its (pc := 32) (pc1 := 33) (lv1 := [(0, .ref 0), (1, .int a1), (2, .int a2), (3, .int a3), (4, .int a4)]) (st1 := [.int a2]) 1 (fun _ _ _ _ => rfl) ?_
          cases hb5 : px_cmp .ge a2 0 with
          | true =>
            have h := cd_t hb5 h
            refine py_if (pc := 33) (len := 3) true rfl hb5 ?_
            refine py_its (pc := 39) (pc1 := 40) (lv1 := [(0, .ref 0), (1, .int a1), (2, .int a2), (3, .int a3), (4, .int a4)]) (st1 := [.ref 0]) 1 (fun _ _ _ _ => rfl) ?_
            refine py_g1 1 (pc := 40) (len := 3) (cs := [0]) rfl rfl rfl List.mem_cons_self hS ?_
            obtain ⟨q6, hq7, h⟩ := bd_e h
            obtain ⟨hC8, hS9⟩ := fx_Town_clearDebts hS hq7
            refine py_vi (pc := 43) (mi := mi_Town_clearDebts) (cs := [1]) (N := mm_Town_clearDebts) rfl rfl rfl rfl List.mem_cons_self hS rfl (Nat.le_of_ble_eq_true rfl) (Nat.le_of_ble_eq_true rfl) rfl rfl hC8 ?_
            show px_Y mm_X_sheet 46 [(0, .ref 0), (1, .int a1), (2, .int a2), (3, .int a3), (4, .int a4)] [] q6 _ _
            refine py_its (pc := 46) (pc1 := 55) (lv1 := [(7, .int (Int32.ofInt 0)), (6, .int a3), (5, .int (Int32.ofInt 0)), (0, .ref 0), (1, .int a1), (2, .int a2), (3, .int a3), (4, .int a4)]) (st1 := []) 6 (fun _ _ _ _ => rfl) ?_
            exact fl_X_sheet_L55 fu (Int32.ofInt 0) a3 (Int32.ofInt 0) q6 [(7, .int (Int32.ofInt 0)), (6, .int a3), (5, .int (Int32.ofInt 0)), (0, .ref 0), (1, .int a1), (2, .int a2), (3, .int a3), (4, .int a4)] _ hS9 ⟨rfl, rfl, rfl, rfl, rfl, rfl, rfl, trivial⟩ h
          | false =>
            have h := cd_f hb5 h
            refine py_if (pc := 33) (len := 3) false rfl hb5 ?_
            refine py_its (pc := 36) (pc1 := 38) (lv1 := [(0, .ref 0), (1, .int a1), (2, .int a2), (3, .int a3), (4, .int a4)]) (st1 := [.int (Int8.ofInt (-2)).toInt32]) 1 (fun _ _ _ _ => rfl) ?_
            have h := Option.some.inj h
            subst h
            exact py_ir (pc := 38) (len := 1) (ty := .int) rfl rfl rfl hS
        | false =>
          have h := cd_f hb4 h
          refine py_ic (pc := 19) (len := 3) false rfl hb4 ?_
          refine py_its (pc := 22) (pc1 := 23) (lv1 := [(0, .ref 0), (1, .int a1), (2, .int a2), (3, .int a3), (4, .int a4)]) (st1 := [.ref 0]) 1 (fun _ _ _ _ => rfl) ?_
          refine py_g1 1 (pc := 23) (len := 3) (cs := [0]) rfl rfl rfl List.mem_cons_self hS ?_
          obtain ⟨q10, hq11, h⟩ := bd_e h
          obtain ⟨hC12, hS13⟩ := fx_Town_clearDebts hS hq11
          refine py_vi (pc := 26) (mi := mi_Town_clearDebts) (cs := [1]) (N := mm_Town_clearDebts) rfl rfl rfl rfl List.mem_cons_self hS rfl (Nat.le_of_ble_eq_true rfl) (Nat.le_of_ble_eq_true rfl) rfl rfl hC12 ?_
          show px_Y mm_X_sheet 29 [(0, .ref 0), (1, .int a1), (2, .int a2), (3, .int a3), (4, .int a4)] [] q10 _ _
          refine py_its (pc := 29) (pc1 := 31) (lv1 := [(0, .ref 0), (1, .int a1), (2, .int a2), (3, .int a3), (4, .int a4)]) (st1 := [.int (Int8.ofInt (-3)).toInt32]) 1 (fun _ _ _ _ => rfl) ?_
          have h := Option.some.inj h
          subst h
          exact py_ir (pc := 31) (len := 1) (ty := .int) rfl rfl rfl hS13
      | false =>
        have h := cd_f hb3 h
        refine py_ic (pc := 12) (len := 3) false rfl hb3 ?_
        refine py_its (pc := 15) (pc1 := 16) (lv1 := [(0, .ref 0), (1, .int a1), (2, .int a2), (3, .int a3), (4, .int a4)]) (st1 := [.int (Int32.ofInt (-1))]) 1 (fun _ _ _ _ => rfl) ?_
        have h := Option.some.inj h
        subst h
        exact py_ir (pc := 16) (len := 1) (ty := .int) rfl rfl rfl hS
/-! X_isBag -/
noncomputable def fn_X_isBag (a0 : Int32) (hp : px_H) : Option (Int32) :=
  bif px_cmp .lt a0 0 then
    some (Int32.ofInt 0)
  else
    bif px_cmp .ge a0 (Int32.ofInt 2) then
      some (Int32.ofInt 0)
    else
      some (Int32.ofInt 1)
theorem fx_X_isBag {a0 : Int32} {hp : px_H} {res : Int32} (hS : oS hp) (h : fn_X_isBag a0 hp = some res) : px_C nm_T nm_P mi_X_isBag [.int a0] hp (some (.int res)) hp ∧ oS hp := by
  unfold fn_X_isBag at h
  refine py_C (M := mm_X_isBag) rfl (Nat.le_of_ble_eq_true rfl) ?_
  show px_Y mm_X_isBag 0 [(0, .int a0)] [] hp _ _
  refine py_its (pc := 0) (pc1 := 1) (lv1 := [(0, .int a0)]) (st1 := [.int a0]) 1 (fun _ _ _ _ => rfl) ?_
  cases hb1 : px_cmp .lt a0 0 with
  | true =>
    have h := cd_t hb1 h
    refine py_if (pc := 1) (len := 3) true rfl hb1 ?_
    refine py_its (pc := 13) (pc1 := 14) (lv1 := [(0, .int a0)]) (st1 := [.int (Int32.ofInt 0)]) 1 (fun _ _ _ _ => rfl) ?_
    have h := Option.some.inj h
    subst h
    exact py_ir (pc := 14) (len := 1) (ty := .boolean) rfl rfl (by decide) hS
  | false =>
    have h := cd_f hb1 h
    refine py_if (pc := 1) (len := 3) false rfl hb1 ?_
    refine py_its (pc := 4) (pc1 := 6) (lv1 := [(0, .int a0)]) (st1 := [.int (Int32.ofInt 2), .int a0]) 2 (fun _ _ _ _ => rfl) ?_
    cases hb2 : px_cmp .ge a0 (Int32.ofInt 2) with
    | true =>
      have h := cd_t hb2 h
      refine py_ic (pc := 6) (len := 3) true rfl hb2 ?_
      refine py_its (pc := 13) (pc1 := 14) (lv1 := [(0, .int a0)]) (st1 := [.int (Int32.ofInt 0)]) 1 (fun _ _ _ _ => rfl) ?_
      have h := Option.some.inj h
      subst h
      exact py_ir (pc := 14) (len := 1) (ty := .boolean) rfl rfl (by decide) hS
    | false =>
      have h := cd_f hb2 h
      refine py_ic (pc := 6) (len := 3) false rfl hb2 ?_
      refine py_its (pc := 9) (pc1 := 14) (lv1 := [(0, .int a0)]) (st1 := [.int (Int32.ofInt 1)]) 2 (fun _ _ _ _ => rfl) ?_
      have h := Option.some.inj h
      subst h
      exact py_ir (pc := 14) (len := 1) (ty := .boolean) rfl rfl (by decide) hS
/-! Town_hasAll -/
noncomputable def fn_Town_hasAll (a1 : Int32) (hp : px_H) : Option (Int32) :=
  bif px_cmp .lt a1 0 then
    some (Int32.ofInt 0)
  else
    bif px_cmp .ge a1 ((Int32.ofInt 1) <<< ((gI hp 1 0) &&& 31)) then
      some (Int32.ofInt 0)
    else
      some (Int32.ofInt 1)
theorem fx_Town_hasAll {a1 : Int32} {hp : px_H} {res : Int32} (hS : oS hp) (h : fn_Town_hasAll a1 hp = some res) : px_C nm_T nm_P mi_Town_hasAll [.ref 1, .int a1] hp (some (.int res)) hp ∧ oS hp := by
  unfold fn_Town_hasAll at h
  refine py_C (M := mm_Town_hasAll) rfl (Nat.le_of_ble_eq_true rfl) ?_
  show px_Y mm_Town_hasAll 0 [(0, .ref 1), (1, .int a1)] [] hp _ _
  refine py_its (pc := 0) (pc1 := 1) (lv1 := [(0, .ref 1), (1, .int a1)]) (st1 := [.int a1]) 1 (fun _ _ _ _ => rfl) ?_
  cases hb1 : px_cmp .lt a1 0 with
  | true =>
    have h := cd_t hb1 h
    refine py_if (pc := 1) (len := 3) true rfl hb1 ?_
    refine py_its (pc := 18) (pc1 := 19) (lv1 := [(0, .ref 1), (1, .int a1)]) (st1 := [.int (Int32.ofInt 0)]) 1 (fun _ _ _ _ => rfl) ?_
    have h := Option.some.inj h
    subst h
    exact py_ir (pc := 19) (len := 1) (ty := .boolean) rfl rfl (by decide) hS
  | false =>
    have h := cd_f hb1 h
    refine py_if (pc := 1) (len := 3) false rfl hb1 ?_
    refine py_its (pc := 4) (pc1 := 7) (lv1 := [(0, .ref 1), (1, .int a1)]) (st1 := [.ref 1, .int (Int32.ofInt 1), .int a1]) 3 (fun _ _ _ _ => rfl) ?_
    refine py_gI (pc := 7) (len := 3) (cs := [1]) rfl rfl rfl List.mem_cons_self hS ?_
    refine py_its (pc := 10) (pc1 := 11) (lv1 := [(0, .ref 1), (1, .int a1)]) (st1 := [.int ((Int32.ofInt 1) <<< ((gI hp 1 0) &&& 31)), .int a1]) 1 (fun _ _ _ _ => rfl) ?_
    cases hb2 : px_cmp .ge a1 ((Int32.ofInt 1) <<< ((gI hp 1 0) &&& 31)) with
    | true =>
      have h := cd_t hb2 h
      refine py_ic (pc := 11) (len := 3) true rfl hb2 ?_
      refine py_its (pc := 18) (pc1 := 19) (lv1 := [(0, .ref 1), (1, .int a1)]) (st1 := [.int (Int32.ofInt 0)]) 1 (fun _ _ _ _ => rfl) ?_
      have h := Option.some.inj h
      subst h
      exact py_ir (pc := 19) (len := 1) (ty := .boolean) rfl rfl (by decide) hS
    | false =>
      have h := cd_f hb2 h
      refine py_ic (pc := 11) (len := 3) false rfl hb2 ?_
      refine py_its (pc := 14) (pc1 := 19) (lv1 := [(0, .ref 1), (1, .int a1)]) (st1 := [.int (Int32.ofInt 1)]) 2 (fun _ _ _ _ => rfl) ?_
      have h := Option.some.inj h
      subst h
      exact py_ir (pc := 19) (len := 1) (ty := .boolean) rfl rfl (by decide) hS
/-! Chest_setPart -/
noncomputable def fn_Chest_setPart (c0 : Nat) (a1 : Int32) (a2 : Int32) (hp : px_H) : Option (px_H) :=
  sb (wF hp c0 0 (.long (((gL hp c0 0) &&& ((sx_lsl (Int64.ofInt 1023) ((Int8.ofInt 10).toInt32 * a1)) ^^^ (Int64.ofInt (-1)))) ||| (sx_lsl a2.toInt64 ((Int8.ofInt 10).toInt32 * a1))))) fun h1 =>
  some h1
theorem fx_Chest_setPart {c0 : Nat} {a1 : Int32} {a2 : Int32} {hp : px_H} {res : px_H} (hc0 : c0 ∈ [19, 20, 47, 66, 67, 68]) (hS : oS hp) (h : fn_Chest_setPart c0 a1 a2 hp = some res) : px_C nm_T nm_P mi_Chest_setPart [.ref c0, .int a1, .int a2] hp none res ∧ oS res := by
  unfold fn_Chest_setPart at h
  refine py_C (M := mm_Chest_setPart) rfl (Nat.le_of_ble_eq_true rfl) ?_
  show px_Y mm_Chest_setPart 0 [(0, .ref c0), (1, .int a1), (2, .int a2)] [] hp _ _
  refine py_its (pc := 0) (pc1 := 7) (lv1 := [(3, .int ((Int8.ofInt 10).toInt32 * a1)), (0, .ref c0), (1, .int a1), (2, .int a2)]) (st1 := [.ref c0, .ref c0]) 6 (fun _ _ _ _ => rfl) ?_
  refine py_gL (pc := 7) (len := 3) (cs := [19, 20, 47, 66, 67, 68]) rfl rfl rfl hc0 hS ?_
  refine py_its (pc := 10) (pc1 := 25) (lv1 := [(3, .int ((Int8.ofInt 10).toInt32 * a1)), (0, .ref c0), (1, .int a1), (2, .int a2)]) (st1 := [.long (((gL hp c0 0) &&& ((sx_lsl (Int64.ofInt 1023) ((Int8.ofInt 10).toInt32 * a1)) ^^^ (Int64.ofInt (-1)))) ||| (sx_lsl a2.toInt64 ((Int8.ofInt 10).toInt32 * a1))), .ref c0]) 11 (fun _ _ _ _ => rfl) ?_
  have h := sb_e h
  refine py_pL (pc := 25) (len := 3) (cs := [19, 20, 47, 66, 67, 68]) rfl rfl rfl hc0 hS rfl rfl rfl rfl ?_
  have hS2 : oS (wF hp c0 0 (.long (((gL hp c0 0) &&& ((sx_lsl (Int64.ofInt 1023) ((Int8.ofInt 10).toInt32 * a1)) ^^^ (Int64.ofInt (-1)))) ||| (sx_lsl a2.toInt64 ((Int8.ofInt 10).toInt32 * a1))))) := oS_wL (cs := [19, 20, 47, 66, 67, 68]) (ci := 0) rfl hc0 hS
  generalize (wF hp c0 0 (.long (((gL hp c0 0) &&& ((sx_lsl (Int64.ofInt 1023) ((Int8.ofInt 10).toInt32 * a1)) ^^^ (Int64.ofInt (-1)))) ||| (sx_lsl a2.toInt64 ((Int8.ofInt 10).toInt32 * a1))))) = h1 at h hS2 ⊢
  have h := Option.some.inj h
  subst h
  exact py_rt (pc := 28) (len := 1) rfl rfl hS2
/-! X_pack -/
noncomputable def fn_X_pack (a1 : Int32) (a2 : Int32) (hp : px_H) : Option (Int32 × px_H) :=
  (fn_X_isBag a1 hp).bind fun q1 =>
  bif px_cmp .eq q1 0 then
    some ((Int32.ofInt (-1)), hp)
  else
    (fn_Town_hasAll a2 hp).bind fun q5 =>
    bif px_cmp .ne q5 0 then
      bif px_inR a1 2 then
      bif px_inR a1 2 then
      sb (uI hp 7 a1.toNatClampNeg a2) fun h11 =>
      (fn_Chest_setPart 19 a1 a2 h11).bind fun q13 =>
      (fn_Chest_setPart 19 ((Int32.ofInt 2) + a1) (Int32.ofInt 0) q13).bind fun q17 =>
      some ((aI hp 7 a1.toNatClampNeg), q17)
      else none
      else none
    else
      some ((Int32.ofInt (-1)), hp)
theorem fx_X_pack {a1 : Int32} {a2 : Int32} {hp : px_H} {res : Int32 × px_H} (hS : oS hp) (h : fn_X_pack a1 a2 hp = some res) : px_C nm_T nm_P mi_X_pack [.ref 0, .int a1, .int a2] hp (some (.int res.1)) res.2 ∧ oS res.2 := by
  unfold fn_X_pack at h
  refine py_C (M := mm_X_pack) rfl (Nat.le_of_ble_eq_true rfl) ?_
  show px_Y mm_X_pack 0 [(0, .ref 0), (1, .int a1), (2, .int a2)] [] hp _ _
  refine py_its (pc := 0) (pc1 := 1) (lv1 := [(0, .ref 0), (1, .int a1), (2, .int a2)]) (st1 := [.int a1]) 1 (fun _ _ _ _ => rfl) ?_
  obtain ⟨q1, hq2, h⟩ := bd_e h
  have hC3 := (fx_X_isBag hS hq2).1
  refine py_st (pc := 1) (mi := mi_X_isBag) (N := mm_X_isBag) rfl rfl rfl (Nat.le_of_ble_eq_true rfl) (Nat.le_of_ble_eq_true rfl) rfl rfl hC3 ?_
  show px_Y mm_X_pack 4 [(0, .ref 0), (1, .int a1), (2, .int a2)] [.int q1] hp _ _
  cases hb4 : px_cmp .eq q1 0 with
  | true =>
    have h := cd_t hb4 h
    refine py_if (pc := 4) (len := 3) true rfl hb4 ?_
    refine py_its (pc := 18) (pc1 := 19) (lv1 := [(0, .ref 0), (1, .int a1), (2, .int a2)]) (st1 := [.int (Int32.ofInt (-1))]) 1 (fun _ _ _ _ => rfl) ?_
    have h := Option.some.inj h
    subst h
    exact py_ir (pc := 19) (len := 1) (ty := .int) rfl rfl rfl hS
  | false =>
    have h := cd_f hb4 h
    refine py_if (pc := 4) (len := 3) false rfl hb4 ?_
    refine py_its (pc := 7) (pc1 := 8) (lv1 := [(0, .ref 0), (1, .int a1), (2, .int a2)]) (st1 := [.ref 0]) 1 (fun _ _ _ _ => rfl) ?_
    refine py_g1 1 (pc := 8) (len := 3) (cs := [0]) rfl rfl rfl List.mem_cons_self hS ?_
    refine py_its (pc := 11) (pc1 := 12) (lv1 := [(0, .ref 0), (1, .int a1), (2, .int a2)]) (st1 := [.int a2, .ref 1]) 1 (fun _ _ _ _ => rfl) ?_
    obtain ⟨q5, hq6, h⟩ := bd_e h
    have hC7 := (fx_Town_hasAll hS hq6).1
    refine py_vi (pc := 12) (mi := mi_Town_hasAll) (cs := [1]) (N := mm_Town_hasAll) rfl rfl rfl rfl List.mem_cons_self hS rfl (Nat.le_of_ble_eq_true rfl) (Nat.le_of_ble_eq_true rfl) rfl rfl hC7 ?_
    show px_Y mm_X_pack 15 [(0, .ref 0), (1, .int a1), (2, .int a2)] [.int q5] hp _ _
    cases hb8 : px_cmp .ne q5 0 with
    | true =>
      have h := cd_t hb8 h
      refine py_if (pc := 15) (len := 3) true rfl hb8 ?_
      refine py_its (pc := 20) (pc1 := 21) (lv1 := [(0, .ref 0), (1, .int a1), (2, .int a2)]) (st1 := [.ref 0]) 1 (fun _ _ _ _ => rfl) ?_
      refine py_g1 1 (pc := 21) (len := 3) (cs := [0]) rfl rfl rfl List.mem_cons_self hS ?_
      refine py_g1 7 (pc := 24) (len := 3) (cs := [1]) rfl rfl rfl List.mem_cons_self hS ?_
      refine py_its (pc := 27) (pc1 := 28) (lv1 := [(0, .ref 0), (1, .int a1), (2, .int a2)]) (st1 := [.int a1, .ref 7]) 1 (fun _ _ _ _ => rfl) ?_
      obtain ⟨hi9, h⟩ := cd_n h
      refine py_ai (pc := 28) (len := 1) (cs := [7]) (t := 17) (n := 2) rfl rfl rfl hi9 List.mem_cons_self hS ?_
      refine py_its (pc := 29) (pc1 := 31) (lv1 := [(3, .int (aI hp 7 a1.toNatClampNeg)), (0, .ref 0), (1, .int a1), (2, .int a2)]) (st1 := [.ref 0]) 2 (fun _ _ _ _ => rfl) ?_
      refine py_g1 1 (pc := 31) (len := 3) (cs := [0]) rfl rfl rfl List.mem_cons_self hS ?_
      refine py_g1 7 (pc := 34) (len := 3) (cs := [1]) rfl rfl rfl List.mem_cons_self hS ?_
      refine py_its (pc := 37) (pc1 := 39) (lv1 := [(3, .int (aI hp 7 a1.toNatClampNeg)), (0, .ref 0), (1, .int a1), (2, .int a2)]) (st1 := [.int a2, .int a1, .ref 7]) 2 (fun _ _ _ _ => rfl) ?_
      obtain ⟨hi10, h⟩ := cd_n h
      have h := sb_e h
      refine py_si (pc := 39) (len := 1) (cs := [7]) (t := 17) (n := 2) rfl rfl rfl hi10 List.mem_cons_self hS ?_
      have hS12 : oS (uI hp 7 a1.toNatClampNeg a2) := oS_uI (cs := [7]) (t := 17) (n := 2) rfl List.mem_cons_self hS
      generalize (uI hp 7 a1.toNatClampNeg a2) = h11 at h hS12 ⊢
      refine py_its (pc := 40) (pc1 := 41) (lv1 := [(3, .int (aI hp 7 a1.toNatClampNeg)), (0, .ref 0), (1, .int a1), (2, .int a2)]) (st1 := [.ref 0]) 1 (fun _ _ _ _ => rfl) ?_
      refine py_g1 19 (pc := 41) (len := 3) (cs := [0]) rfl rfl rfl List.mem_cons_self hS12 ?_
      refine py_its (pc := 44) (pc1 := 46) (lv1 := [(3, .int (aI hp 7 a1.toNatClampNeg)), (0, .ref 0), (1, .int a1), (2, .int a2)]) (st1 := [.int a2, .int a1, .ref 19]) 2 (fun _ _ _ _ => rfl) ?_
      obtain ⟨q13, hq14, h⟩ := bd_e h
      obtain ⟨hC15, hS16⟩ := fx_Chest_setPart (List.mem_of_elem_eq_true rfl) hS12 hq14
      refine py_vi (pc := 46) (mi := mi_Chest_setPart) (cs := [19]) (N := mm_Chest_setPart) rfl rfl rfl rfl List.mem_cons_self hS12 rfl (Nat.le_of_ble_eq_true rfl) (Nat.le_of_ble_eq_true rfl) rfl rfl hC15 ?_
      show px_Y mm_X_pack 49 [(3, .int (aI hp 7 a1.toNatClampNeg)), (0, .ref 0), (1, .int a1), (2, .int a2)] [] q13 _ _
      refine py_its (pc := 49) (pc1 := 50) (lv1 := [(3, .int (aI hp 7 a1.toNatClampNeg)), (0, .ref 0), (1, .int a1), (2, .int a2)]) (st1 := [.ref 0]) 1 (fun _ _ _ _ => rfl) ?_
      refine py_g1 19 (pc := 50) (len := 3) (cs := [0]) rfl rfl rfl List.mem_cons_self hS16 ?_
      refine py_its (pc := 53) (pc1 := 57) (lv1 := [(3, .int (aI hp 7 a1.toNatClampNeg)), (0, .ref 0), (1, .int a1), (2, .int a2)]) (st1 := [.int (Int32.ofInt 0), .int ((Int32.ofInt 2) + a1), .ref 19]) 4 (fun _ _ _ _ => rfl) ?_
      obtain ⟨q17, hq18, h⟩ := bd_e h
      obtain ⟨hC19, hS20⟩ := fx_Chest_setPart (List.mem_of_elem_eq_true rfl) hS16 hq18
      refine py_vi (pc := 57) (mi := mi_Chest_setPart) (cs := [19]) (N := mm_Chest_setPart) rfl rfl rfl rfl List.mem_cons_self hS16 rfl (Nat.le_of_ble_eq_true rfl) (Nat.le_of_ble_eq_true rfl) rfl rfl hC19 ?_
      show px_Y mm_X_pack 60 [(3, .int (aI hp 7 a1.toNatClampNeg)), (0, .ref 0), (1, .int a1), (2, .int a2)] [] q17 _ _
      refine py_its (pc := 60) (pc1 := 61) (lv1 := [(3, .int (aI hp 7 a1.toNatClampNeg)), (0, .ref 0), (1, .int a1), (2, .int a2)]) (st1 := [.int (aI hp 7 a1.toNatClampNeg)]) 1 (fun _ _ _ _ => rfl) ?_
      have h := Option.some.inj h
      subst h
      exact py_ir (pc := 61) (len := 1) (ty := .int) rfl rfl rfl hS20
    | false =>
      have h := cd_f hb8 h
      refine py_if (pc := 15) (len := 3) false rfl hb8 ?_
      refine py_its (pc := 18) (pc1 := 19) (lv1 := [(0, .ref 0), (1, .int a1), (2, .int a2)]) (st1 := [.int (Int32.ofInt (-1))]) 1 (fun _ _ _ _ => rfl) ?_
      have h := Option.some.inj h
      subst h
      exact py_ir (pc := 19) (len := 1) (ty := .int) rfl rfl rfl hS
/-! X_renew -/
noncomputable def fn_X_renew (a1 : Int32) (a2 : Int32) (hp : px_H) : Option (Int32 × px_H) :=
  (fn_X_isBag a1 hp).bind fun q1 =>
  bif px_cmp .ne q1 0 then
    bif px_inR a1 2 then
    bif (decide (a2 = 0) || decide (a2 = 1)) then
    sb (uI hp 8 a1.toNatClampNeg a2) fun h7 =>
    some ((Int32.ofInt 1), h7)
    else none
    else none
  else
    some ((Int32.ofInt 0), hp)
theorem fx_X_renew {a1 : Int32} {a2 : Int32} {hp : px_H} {res : Int32 × px_H} (hS : oS hp) (h : fn_X_renew a1 a2 hp = some res) : px_C nm_T nm_P mi_X_renew [.ref 0, .int a1, .int a2] hp (some (.int res.1)) res.2 ∧ oS res.2 := by
  unfold fn_X_renew at h
  refine py_C (M := mm_X_renew) rfl (Nat.le_of_ble_eq_true rfl) ?_
  show px_Y mm_X_renew 0 [(0, .ref 0), (1, .int a1), (2, .int a2)] [] hp _ _
  refine py_its (pc := 0) (pc1 := 1) (lv1 := [(0, .ref 0), (1, .int a1), (2, .int a2)]) (st1 := [.int a1]) 1 (fun _ _ _ _ => rfl) ?_
  obtain ⟨q1, hq2, h⟩ := bd_e h
  have hC3 := (fx_X_isBag hS hq2).1
  refine py_st (pc := 1) (mi := mi_X_isBag) (N := mm_X_isBag) rfl rfl rfl (Nat.le_of_ble_eq_true rfl) (Nat.le_of_ble_eq_true rfl) rfl rfl hC3 ?_
  show px_Y mm_X_renew 4 [(0, .ref 0), (1, .int a1), (2, .int a2)] [.int q1] hp _ _
  cases hb4 : px_cmp .ne q1 0 with
  | true =>
    have h := cd_t hb4 h
    refine py_if (pc := 4) (len := 3) true rfl hb4 ?_
    refine py_its (pc := 9) (pc1 := 10) (lv1 := [(0, .ref 0), (1, .int a1), (2, .int a2)]) (st1 := [.ref 0]) 1 (fun _ _ _ _ => rfl) ?_
    refine py_g1 1 (pc := 10) (len := 3) (cs := [0]) rfl rfl rfl List.mem_cons_self hS ?_
    refine py_g1 8 (pc := 13) (len := 3) (cs := [1]) rfl rfl rfl List.mem_cons_self hS ?_
    refine py_its (pc := 16) (pc1 := 18) (lv1 := [(0, .ref 0), (1, .int a1), (2, .int a2)]) (st1 := [.int a2, .int a1, .ref 8]) 2 (fun _ _ _ _ => rfl) ?_
    obtain ⟨hi5, h⟩ := cd_n h
    obtain ⟨hz6, h⟩ := cd_n h
    have h := sb_e h
    refine py_sb (pc := 18) (len := 1) (cs := [8]) (t := 18) (n := 2) rfl rfl rfl hi5 hz6 List.mem_cons_self hS ?_
    have hS8 : oS (uI hp 8 a1.toNatClampNeg a2) := oS_uI (cs := [8]) (t := 18) (n := 2) rfl List.mem_cons_self hS
    generalize (uI hp 8 a1.toNatClampNeg a2) = h7 at h hS8 ⊢
    refine py_its (pc := 19) (pc1 := 20) (lv1 := [(0, .ref 0), (1, .int a1), (2, .int a2)]) (st1 := [.int (Int32.ofInt 1)]) 1 (fun _ _ _ _ => rfl) ?_
    have h := Option.some.inj h
    subst h
    exact py_ir (pc := 20) (len := 1) (ty := .boolean) rfl rfl (by decide) hS8
  | false =>
    have h := cd_f hb4 h
    refine py_if (pc := 4) (len := 3) false rfl hb4 ?_
    refine py_its (pc := 7) (pc1 := 8) (lv1 := [(0, .ref 0), (1, .int a1), (2, .int a2)]) (st1 := [.int (Int32.ofInt 0)]) 1 (fun _ _ _ _ => rfl) ?_
    have h := Option.some.inj h
    subst h
    exact py_ir (pc := 8) (len := 1) (ty := .boolean) rfl rfl (by decide) hS
/-! Town_lastDay -/
noncomputable def fn_Town_lastDay  (hp : px_H) : Option (Int32) :=
  bif px_cmp .le (gI hp 1 8) 0 then
    some (Int32.ofInt 0)
  else
    bif px_inR ((gI hp 1 8) - (Int32.ofInt 1)) 6 then
    some (aI hp 9 ((gI hp 1 8) - (Int32.ofInt 1)).toNatClampNeg)
    else none
theorem fx_Town_lastDay  {hp : px_H} {res : Int32} (hS : oS hp) (h : fn_Town_lastDay hp = some res) : px_C nm_T nm_P mi_Town_lastDay [.ref 1] hp (some (.int res)) hp ∧ oS hp := by
  unfold fn_Town_lastDay at h
  refine py_C (M := mm_Town_lastDay) rfl (Nat.le_of_ble_eq_true rfl) ?_
  show px_Y mm_Town_lastDay 0 [(0, .ref 1)] [] hp _ _
  refine py_its (pc := 0) (pc1 := 1) (lv1 := [(0, .ref 1)]) (st1 := [.ref 1]) 1 (fun _ _ _ _ => rfl) ?_
  refine py_gI (pc := 1) (len := 3) (cs := [1]) rfl rfl rfl List.mem_cons_self hS ?_
  cases hb1 : px_cmp .le (gI hp 1 8) 0 with
  | true =>
    have h := cd_t hb1 h
    refine py_if (pc := 4) (len := 3) true rfl hb1 ?_
    refine py_its (pc := 21) (pc1 := 22) (lv1 := [(0, .ref 1)]) (st1 := [.int (Int32.ofInt 0)]) 1 (fun _ _ _ _ => rfl) ?_
    have h := Option.some.inj h
    subst h
    exact py_ir (pc := 22) (len := 1) (ty := .int) rfl rfl rfl hS
  | false =>
    have h := cd_f hb1 h
    refine py_if (pc := 4) (len := 3) false rfl hb1 ?_
    refine py_its (pc := 7) (pc1 := 8) (lv1 := [(0, .ref 1)]) (st1 := [.ref 1]) 1 (fun _ _ _ _ => rfl) ?_
    refine py_g1 9 (pc := 8) (len := 3) (cs := [1]) rfl rfl rfl List.mem_cons_self hS ?_
    refine py_its (pc := 11) (pc1 := 12) (lv1 := [(0, .ref 1)]) (st1 := [.ref 1, .ref 9]) 1 (fun _ _ _ _ => rfl) ?_
    refine py_gI (pc := 12) (len := 3) (cs := [1]) rfl rfl rfl List.mem_cons_self hS ?_
    refine py_its (pc := 15) (pc1 := 17) (lv1 := [(0, .ref 1)]) (st1 := [.int ((gI hp 1 8) - (Int32.ofInt 1)), .ref 9]) 2 (fun _ _ _ _ => rfl) ?_
    obtain ⟨hi2, h⟩ := cd_n h
    refine py_ai (pc := 17) (len := 1) (cs := [9]) (t := 19) (n := 6) rfl rfl rfl hi2 List.mem_cons_self hS ?_
    refine py_its (pc := 18) (pc1 := 22) (lv1 := [(0, .ref 1)]) (st1 := [.int (aI hp 9 ((gI hp 1 8) - (Int32.ofInt 1)).toNatClampNeg)]) 1 (fun _ _ _ _ => rfl) ?_
    have h := Option.some.inj h
    subst h
    exact py_ir (pc := 22) (len := 1) (ty := .int) rfl rfl rfl hS
/-! Town_addDrawing -/
noncomputable def fn_Town_addDrawing (a1 : Int32) (a2 : Int32) (a3 : Int32) (hp : px_H) : Option (Int32 × px_H) :=
  bif px_inR (gI hp 1 8) 6 then
  sb (uI hp 9 (gI hp 1 8).toNatClampNeg a1) fun h2 =>
  bif px_inR (gI hp 1 8) 6 then
  sb (uI h2 10 (gI hp 1 8).toNatClampNeg a2) fun h5 =>
  bif px_inR (gI hp 1 8) 6 then
  sb (uI h5 11 (gI hp 1 8).toNatClampNeg a3) fun h8 =>
  sb (wF h8 1 8 (.int ((gI h8 1 8) + (Int32.ofInt 1)))) fun h10 =>
  some ((gI hp 1 8), h10)
  else none
  else none
  else none
theorem fx_Town_addDrawing {a1 : Int32} {a2 : Int32} {a3 : Int32} {hp : px_H} {res : Int32 × px_H} (hS : oS hp) (h : fn_Town_addDrawing a1 a2 a3 hp = some res) : px_C nm_T nm_P mi_Town_addDrawing [.ref 1, .int a1, .int a2, .int a3] hp (some (.int res.1)) res.2 ∧ oS res.2 := by
  unfold fn_Town_addDrawing at h
  refine py_C (M := mm_Town_addDrawing) rfl (Nat.le_of_ble_eq_true rfl) ?_
  show px_Y mm_Town_addDrawing 0 [(0, .ref 1), (1, .int a1), (2, .int a2), (3, .int a3)] [] hp _ _
  refine py_its (pc := 0) (pc1 := 1) (lv1 := [(0, .ref 1), (1, .int a1), (2, .int a2), (3, .int a3)]) (st1 := [.ref 1]) 1 (fun _ _ _ _ => rfl) ?_
  refine py_gI (pc := 1) (len := 3) (cs := [1]) rfl rfl rfl List.mem_cons_self hS ?_
  refine py_its (pc := 4) (pc1 := 7) (lv1 := [(4, .int (gI hp 1 8)), (0, .ref 1), (1, .int a1), (2, .int a2), (3, .int a3)]) (st1 := [.ref 1]) 2 (fun _ _ _ _ => rfl) ?_
  refine py_g1 9 (pc := 7) (len := 3) (cs := [1]) rfl rfl rfl List.mem_cons_self hS ?_
  refine py_its (pc := 10) (pc1 := 13) (lv1 := [(4, .int (gI hp 1 8)), (0, .ref 1), (1, .int a1), (2, .int a2), (3, .int a3)]) (st1 := [.int a1, .int (gI hp 1 8), .ref 9]) 2 (fun _ _ _ _ => rfl) ?_
  obtain ⟨hi1, h⟩ := cd_n h
  have h := sb_e h
  refine py_si (pc := 13) (len := 1) (cs := [9]) (t := 19) (n := 6) rfl rfl rfl hi1 List.mem_cons_self hS ?_
  have hS3 : oS (uI hp 9 (gI hp 1 8).toNatClampNeg a1) := oS_uI (cs := [9]) (t := 19) (n := 6) rfl List.mem_cons_self hS
  generalize (uI hp 9 (gI hp 1 8).toNatClampNeg a1) = h2 at h hS3 ⊢
  refine py_its (pc := 14) (pc1 := 15) (lv1 := [(4, .int (gI hp 1 8)), (0, .ref 1), (1, .int a1), (2, .int a2), (3, .int a3)]) (st1 := [.ref 1]) 1 (fun _ _ _ _ => rfl) ?_
  refine py_g1 10 (pc := 15) (len := 3) (cs := [1]) rfl rfl rfl List.mem_cons_self hS3 ?_
  refine py_its (pc := 18) (pc1 := 21) (lv1 := [(4, .int (gI hp 1 8)), (0, .ref 1), (1, .int a1), (2, .int a2), (3, .int a3)]) (st1 := [.int a2, .int (gI hp 1 8), .ref 10]) 2 (fun _ _ _ _ => rfl) ?_
  obtain ⟨hi4, h⟩ := cd_n h
  have h := sb_e h
  refine py_si (pc := 21) (len := 1) (cs := [10]) (t := 20) (n := 6) rfl rfl rfl hi4 List.mem_cons_self hS3 ?_
  have hS6 : oS (uI h2 10 (gI hp 1 8).toNatClampNeg a2) := oS_uI (cs := [10]) (t := 20) (n := 6) rfl List.mem_cons_self hS3
  generalize (uI h2 10 (gI hp 1 8).toNatClampNeg a2) = h5 at h hS6 ⊢
  refine py_its (pc := 22) (pc1 := 23) (lv1 := [(4, .int (gI hp 1 8)), (0, .ref 1), (1, .int a1), (2, .int a2), (3, .int a3)]) (st1 := [.ref 1]) 1 (fun _ _ _ _ => rfl) ?_
  refine py_g1 11 (pc := 23) (len := 3) (cs := [1]) rfl rfl rfl List.mem_cons_self hS6 ?_
  refine py_its (pc := 26) (pc1 := 29) (lv1 := [(4, .int (gI hp 1 8)), (0, .ref 1), (1, .int a1), (2, .int a2), (3, .int a3)]) (st1 := [.int a3, .int (gI hp 1 8), .ref 11]) 2 (fun _ _ _ _ => rfl) ?_
  obtain ⟨hi7, h⟩ := cd_n h
  have h := sb_e h
  refine py_si (pc := 29) (len := 1) (cs := [11]) (t := 21) (n := 6) rfl rfl rfl hi7 List.mem_cons_self hS6 ?_
  have hS9 : oS (uI h5 11 (gI hp 1 8).toNatClampNeg a3) := oS_uI (cs := [11]) (t := 21) (n := 6) rfl List.mem_cons_self hS6
  generalize (uI h5 11 (gI hp 1 8).toNatClampNeg a3) = h8 at h hS9 ⊢
  refine py_its (pc := 30) (pc1 := 32) (lv1 := [(4, .int (gI hp 1 8)), (0, .ref 1), (1, .int a1), (2, .int a2), (3, .int a3)]) (st1 := [.ref 1, .ref 1]) 2 (fun _ _ _ _ => rfl) ?_
  refine py_gI (pc := 32) (len := 3) (cs := [1]) rfl rfl rfl List.mem_cons_self hS9 ?_
  refine py_its (pc := 35) (pc1 := 37) (lv1 := [(4, .int (gI hp 1 8)), (0, .ref 1), (1, .int a1), (2, .int a2), (3, .int a3)]) (st1 := [.int ((gI h8 1 8) + (Int32.ofInt 1)), .ref 1]) 2 (fun _ _ _ _ => rfl) ?_
  have h := sb_e h
  refine py_pI (pc := 37) (len := 3) (cs := [1]) rfl rfl rfl List.mem_cons_self hS9 rfl rfl rfl rfl ?_
  have hS11 : oS (wF h8 1 8 (.int ((gI h8 1 8) + (Int32.ofInt 1)))) := oS_wI (cs := [1]) (ci := 6) rfl List.mem_cons_self hS9
  generalize (wF h8 1 8 (.int ((gI h8 1 8) + (Int32.ofInt 1)))) = h10 at h hS11 ⊢
  refine py_its (pc := 40) (pc1 := 42) (lv1 := [(4, .int (gI hp 1 8)), (0, .ref 1), (1, .int a1), (2, .int a2), (3, .int a3)]) (st1 := [.int (gI hp 1 8)]) 1 (fun _ _ _ _ => rfl) ?_
  have h := Option.some.inj h
  subst h
  exact py_ir (pc := 42) (len := 1) (ty := .int) rfl rfl rfl hS11
/-! X_drawing -/
noncomputable def fn_X_drawing (a1 : Int32) (a2 : Int32) (a3 : Int32) (hp : px_H) : Option (Int32 × px_H) :=
  (fn_X_isDay a1 hp).bind fun q1 =>
  bif px_cmp .eq q1 0 then
    some ((Int32.ofInt (-1)), hp)
  else
    (fn_X_isBag a2 hp).bind fun q5 =>
    bif px_cmp .eq q5 0 then
      some ((Int32.ofInt (-1)), hp)
    else
      bif px_cmp .lt a3 (Int32.ofInt 1) then
        some ((Int32.ofInt (-1)), hp)
      else
        bif px_cmp .le a3 (Int32.ofInt 3) then
          bif px_cmp .ge (gI hp 1 8) (Int8.ofInt 6).toInt32 then
            some ((Int32.ofInt (-1)), hp)
          else
            (fn_Town_lastDay hp).bind fun q12 =>
            bif px_cmp .ge a1 q12 then
              (fn_Town_addDrawing a1 a2 a3 hp).bind fun q16 =>
              some (q16.1, q16.2)
            else
              some ((Int32.ofInt (-1)), hp)
        else
          some ((Int32.ofInt (-1)), hp)
theorem fx_X_drawing {a1 : Int32} {a2 : Int32} {a3 : Int32} {hp : px_H} {res : Int32 × px_H} (hS : oS hp) (h : fn_X_drawing a1 a2 a3 hp = some res) : px_C nm_T nm_P mi_X_drawing [.ref 0, .int a1, .int a2, .int a3] hp (some (.int res.1)) res.2 ∧ oS res.2 := by
  unfold fn_X_drawing at h
  refine py_C (M := mm_X_drawing) rfl (Nat.le_of_ble_eq_true rfl) ?_
  show px_Y mm_X_drawing 0 [(0, .ref 0), (1, .int a1), (2, .int a2), (3, .int a3)] [] hp _ _
  refine py_its (pc := 0) (pc1 := 1) (lv1 := [(0, .ref 0), (1, .int a1), (2, .int a2), (3, .int a3)]) (st1 := [.int a1]) 1 (fun _ _ _ _ => rfl) ?_
  obtain ⟨q1, hq2, h⟩ := bd_e h
  have hC3 := (fx_X_isDay hS hq2).1
  refine py_st (pc := 1) (mi := mi_X_isDay) (N := mm_X_isDay) rfl rfl rfl (Nat.le_of_ble_eq_true rfl) (Nat.le_of_ble_eq_true rfl) rfl rfl hC3 ?_
  show px_Y mm_X_drawing 4 [(0, .ref 0), (1, .int a1), (2, .int a2), (3, .int a3)] [.int q1] hp _ _
  cases hb4 : px_cmp .eq q1 0 with
  | true =>
    have h := cd_t hb4 h
    refine py_if (pc := 4) (len := 3) true rfl hb4 ?_
    refine py_its (pc := 24) (pc1 := 25) (lv1 := [(0, .ref 0), (1, .int a1), (2, .int a2), (3, .int a3)]) (st1 := [.int (Int32.ofInt (-1))]) 1 (fun _ _ _ _ => rfl) ?_
    have h := Option.some.inj h
    subst h
    exact py_ir (pc := 25) (len := 1) (ty := .int) rfl rfl rfl hS
  | false =>
    have h := cd_f hb4 h
    refine py_if (pc := 4) (len := 3) false rfl hb4 ?_
    refine py_its (pc := 7) (pc1 := 8) (lv1 := [(0, .ref 0), (1, .int a1), (2, .int a2), (3, .int a3)]) (st1 := [.int a2]) 1 (fun _ _ _ _ => rfl) ?_
    obtain ⟨q5, hq6, h⟩ := bd_e h
    have hC7 := (fx_X_isBag hS hq6).1
    refine py_st (pc := 8) (mi := mi_X_isBag) (N := mm_X_isBag) rfl rfl rfl (Nat.le_of_ble_eq_true rfl) (Nat.le_of_ble_eq_true rfl) rfl rfl hC7 ?_
    show px_Y mm_X_drawing 11 [(0, .ref 0), (1, .int a1), (2, .int a2), (3, .int a3)] [.int q5] hp _ _
    cases hb8 : px_cmp .eq q5 0 with
    | true =>
      have h := cd_t hb8 h
      refine py_if (pc := 11) (len := 3) true rfl hb8 ?_
      refine py_its (pc := 24) (pc1 := 25) (lv1 := [(0, .ref 0), (1, .int a1), (2, .int a2), (3, .int a3)]) (st1 := [.int (Int32.ofInt (-1))]) 1 (fun _ _ _ _ => rfl) ?_
      have h := Option.some.inj h
      subst h
      exact py_ir (pc := 25) (len := 1) (ty := .int) rfl rfl rfl hS
    | false =>
      have h := cd_f hb8 h
      refine py_if (pc := 11) (len := 3) false rfl hb8 ?_
      refine py_its (pc := 14) (pc1 := 16) (lv1 := [(0, .ref 0), (1, .int a1), (2, .int a2), (3, .int a3)]) (st1 := [.int (Int32.ofInt 1), .int a3]) 2 (fun _ _ _ _ => rfl) ?_
      cases hb9 : px_cmp .lt a3 (Int32.ofInt 1) with
      | true =>
        have h := cd_t hb9 h
        refine py_ic (pc := 16) (len := 3) true rfl hb9 ?_
        refine py_its (pc := 24) (pc1 := 25) (lv1 := [(0, .ref 0), (1, .int a1), (2, .int a2), (3, .int a3)]) (st1 := [.int (Int32.ofInt (-1))]) 1 (fun _ _ _ _ => rfl) ?_
        have h := Option.some.inj h
        subst h
        exact py_ir (pc := 25) (len := 1) (ty := .int) rfl rfl rfl hS
      | false =>
        have h := cd_f hb9 h
        refine py_ic (pc := 16) (len := 3) false rfl hb9 ?_
        refine py_its (pc := 19) (pc1 := 21) (lv1 := [(0, .ref 0), (1, .int a1), (2, .int a2), (3, .int a3)]) (st1 := [.int (Int32.ofInt 3), .int a3]) 2 (fun _ _ _ _ => rfl) ?_
        cases hb10 : px_cmp .le a3 (Int32.ofInt 3) with
        | true =>
          have h := cd_t hb10 h
          refine py_ic (pc := 21) (len := 3) true rfl hb10 ?_
          refine py_its (pc := 26) (pc1 := 27) (lv1 := [(0, .ref 0), (1, .int a1), (2, .int a2), (3, .int a3)]) (st1 := [.ref 0]) 1 (fun _ _ _ _ => rfl) ?_
          refine py_g1 1 (pc := 27) (len := 3) (cs := [0]) rfl rfl rfl List.mem_cons_self hS ?_
          refine py_gI (pc := 30) (len := 3) (cs := [1]) rfl rfl rfl List.mem_cons_self hS ?_
          refine py_its (pc := 33) (pc1 := 35) (lv1 := [(0, .ref 0), (1, .int a1), (2, .int a2), (3, .int a3)]) (st1 := [.int (Int8.ofInt 6).toInt32, .int (gI hp 1 8)]) 1 (fun _ _ _ _ => rfl) ?_
          cases hb11 : px_cmp .ge (gI hp 1 8) (Int8.ofInt 6).toInt32 with
          | true =>
            have h := cd_t hb11 h
            refine py_ic (pc := 35) (len := 3) true rfl hb11 ?_
            refine py_its (pc := 49) (pc1 := 50) (lv1 := [(0, .ref 0), (1, .int a1), (2, .int a2), (3, .int a3)]) (st1 := [.int (Int32.ofInt (-1))]) 1 (fun _ _ _ _ => rfl) ?_
            have h := Option.some.inj h
            subst h
            exact py_ir (pc := 50) (len := 1) (ty := .int) rfl rfl rfl hS
          | false =>
            have h := cd_f hb11 h
            refine py_ic (pc := 35) (len := 3) false rfl hb11 ?_
            refine py_its (pc := 38) (pc1 := 40) (lv1 := [(0, .ref 0), (1, .int a1), (2, .int a2), (3, .int a3)]) (st1 := [.ref 0, .int a1]) 2 (fun _ _ _ _ => rfl) ?_
            refine py_g1 1 (pc := 40) (len := 3) (cs := [0]) rfl rfl rfl List.mem_cons_self hS ?_
            obtain ⟨q12, hq13, h⟩ := bd_e h
            have hC14 := (fx_Town_lastDay hS hq13).1
            refine py_vi (pc := 43) (mi := mi_Town_lastDay) (cs := [1]) (N := mm_Town_lastDay) rfl rfl rfl rfl List.mem_cons_self hS rfl (Nat.le_of_ble_eq_true rfl) (Nat.le_of_ble_eq_true rfl) rfl rfl hC14 ?_
            show px_Y mm_X_drawing 46 [(0, .ref 0), (1, .int a1), (2, .int a2), (3, .int a3)] [.int q12, .int a1] hp _ _
            cases hb15 : px_cmp .ge a1 q12 with
            | true =>
              have h := cd_t hb15 h
              refine py_ic (pc := 46) (len := 3) true rfl hb15 ?_
              refine py_its (pc := 51) (pc1 := 52) (lv1 := [(0, .ref 0), (1, .int a1), (2, .int a2), (3, .int a3)]) (st1 := [.ref 0]) 1 (fun _ _ _ _ => rfl) ?_
              refine py_g1 1 (pc := 52) (len := 3) (cs := [0]) rfl rfl rfl List.mem_cons_self hS ?_
              refine py_its (pc := 55) (pc1 := 58) (lv1 := [(0, .ref 0), (1, .int a1), (2, .int a2), (3, .int a3)]) (st1 := [.int a3, .int a2, .int a1, .ref 1]) 3 (fun _ _ _ _ => rfl) ?_
              obtain ⟨q16, hq17, h⟩ := bd_e h
              obtain ⟨hC18, hS19⟩ := fx_Town_addDrawing hS hq17
              refine py_vi (pc := 58) (mi := mi_Town_addDrawing) (cs := [1]) (N := mm_Town_addDrawing) rfl rfl rfl rfl List.mem_cons_self hS rfl (Nat.le_of_ble_eq_true rfl) (Nat.le_of_ble_eq_true rfl) rfl rfl hC18 ?_
              show px_Y mm_X_drawing 61 [(0, .ref 0), (1, .int a1), (2, .int a2), (3, .int a3)] [.int q16.1] q16.2 _ _
              have h := Option.some.inj h
              subst h
              exact py_ir (pc := 61) (len := 1) (ty := .int) rfl rfl rfl hS19
            | false =>
              have h := cd_f hb15 h
              refine py_ic (pc := 46) (len := 3) false rfl hb15 ?_
              refine py_its (pc := 49) (pc1 := 50) (lv1 := [(0, .ref 0), (1, .int a1), (2, .int a2), (3, .int a3)]) (st1 := [.int (Int32.ofInt (-1))]) 1 (fun _ _ _ _ => rfl) ?_
              have h := Option.some.inj h
              subst h
              exact py_ir (pc := 50) (len := 1) (ty := .int) rfl rfl rfl hS
        | false =>
          have h := cd_f hb10 h
          refine py_ic (pc := 21) (len := 3) false rfl hb10 ?_
          refine py_its (pc := 24) (pc1 := 25) (lv1 := [(0, .ref 0), (1, .int a1), (2, .int a2), (3, .int a3)]) (st1 := [.int (Int32.ofInt (-1))]) 1 (fun _ _ _ _ => rfl) ?_
          have h := Option.some.inj h
          subst h
          exact py_ir (pc := 25) (len := 1) (ty := .int) rfl rfl rfl hS
/-! X_isDrawingLeft -/
noncomputable def fn_X_isDrawingLeft  (hp : px_H) : Option (Int32) :=
  bif px_cmp .ge (gI hp 19 2) (gI hp 1 8) then
    some (Int32.ofInt 0)
  else
    some (Int32.ofInt 1)
theorem fx_X_isDrawingLeft  {hp : px_H} {res : Int32} (hS : oS hp) (h : fn_X_isDrawingLeft hp = some res) : px_C nm_T nm_P mi_X_isDrawingLeft [.ref 0] hp (some (.int res)) hp ∧ oS hp := by
  unfold fn_X_isDrawingLeft at h
  refine py_C (M := mm_X_isDrawingLeft) rfl (Nat.le_of_ble_eq_true rfl) ?_
  show px_Y mm_X_isDrawingLeft 0 [(0, .ref 0)] [] hp _ _
  refine py_its (pc := 0) (pc1 := 1) (lv1 := [(0, .ref 0)]) (st1 := [.ref 0]) 1 (fun _ _ _ _ => rfl) ?_
  refine py_g1 19 (pc := 1) (len := 3) (cs := [0]) rfl rfl rfl List.mem_cons_self hS ?_
  refine py_gI (pc := 4) (len := 3) (cs := [19]) rfl rfl rfl List.mem_cons_self hS ?_
  refine py_its (pc := 7) (pc1 := 8) (lv1 := [(0, .ref 0)]) (st1 := [.ref 0, .int (gI hp 19 2)]) 1 (fun _ _ _ _ => rfl) ?_
  refine py_g1 1 (pc := 8) (len := 3) (cs := [0]) rfl rfl rfl List.mem_cons_self hS ?_
  refine py_gI (pc := 11) (len := 3) (cs := [1]) rfl rfl rfl List.mem_cons_self hS ?_
  cases hb1 : px_cmp .ge (gI hp 19 2) (gI hp 1 8) with
  | true =>
    have h := cd_t hb1 h
    refine py_ic (pc := 14) (len := 3) true rfl hb1 ?_
    refine py_its (pc := 21) (pc1 := 22) (lv1 := [(0, .ref 0)]) (st1 := [.int (Int32.ofInt 0)]) 1 (fun _ _ _ _ => rfl) ?_
    have h := Option.some.inj h
    subst h
    exact py_ir (pc := 22) (len := 1) (ty := .boolean) rfl rfl (by decide) hS
  | false =>
    have h := cd_f hb1 h
    refine py_ic (pc := 14) (len := 3) false rfl hb1 ?_
    refine py_its (pc := 17) (pc1 := 22) (lv1 := [(0, .ref 0)]) (st1 := [.int (Int32.ofInt 1)]) 2 (fun _ _ _ _ => rfl) ?_
    have h := Option.some.inj h
    subst h
    exact py_ir (pc := 22) (len := 1) (ty := .boolean) rfl rfl (by decide) hS
/-! Course_set -/
noncomputable def fn_Course_set (c1 : Nat) (a2 : Int32) (a3 : Int32) (a4 : Int32) (hp : px_H) : Option (px_H) :=
  sb (wF hp 21 1 (.ref c1)) fun h1 =>
  sb (uI h1 26 (Int32.ofInt 0).toNatClampNeg a2) fun h3 =>
  sb (uI h3 26 (Int32.ofInt 1).toNatClampNeg a3) fun h5 =>
  sb (wF h5 21 3 (.int a4)) fun h7 =>
  some h7
theorem fx_Course_set {c1 : Nat} {a2 : Int32} {a3 : Int32} {a4 : Int32} {hp : px_H} {res : px_H} (hc1 : c1 ∈ [14, 22, 54, 58, 62]) (hS : oS hp) (h : fn_Course_set c1 a2 a3 a4 hp = some res) : px_C nm_T nm_P mi_Course_set [.ref 21, .ref c1, .int a2, .int a3, .int a4] hp none res ∧ oS res := by
  unfold fn_Course_set at h
  refine py_C (M := mm_Course_set) rfl (Nat.le_of_ble_eq_true rfl) ?_
  show px_Y mm_Course_set 0 [(0, .ref 21), (1, .ref c1), (2, .int a2), (3, .int a3), (4, .int a4)] [] hp _ _
  refine py_its (pc := 0) (pc1 := 2) (lv1 := [(0, .ref 21), (1, .ref c1), (2, .int a2), (3, .int a3), (4, .int a4)]) (st1 := [.ref c1, .ref 21]) 2 (fun _ _ _ _ => rfl) ?_
  have h := sb_e h
  refine py_pR (pc := 2) (len := 3) (cs := [21]) (ds := [14, 22, 54, 58, 62]) rfl rfl rfl List.mem_cons_self hS rfl rfl rfl rfl ?_
  have hS2 : oS (wF hp 21 1 (.ref c1)) := oS_wRm (ci := 1) (cs := [14, 22, 54, 58, 62]) rfl hc1 hS
  generalize (wF hp 21 1 (.ref c1)) = h1 at h hS2 ⊢
  refine py_its (pc := 5) (pc1 := 6) (lv1 := [(0, .ref 21), (1, .ref c1), (2, .int a2), (3, .int a3), (4, .int a4)]) (st1 := [.ref 21]) 1 (fun _ _ _ _ => rfl) ?_
  refine py_g1 26 (pc := 6) (len := 3) (cs := [21]) rfl rfl rfl List.mem_cons_self hS2 ?_
  refine py_its (pc := 9) (pc1 := 11) (lv1 := [(0, .ref 21), (1, .ref c1), (2, .int a2), (3, .int a3), (4, .int a4)]) (st1 := [.int a2, .int (Int32.ofInt 0), .ref 26]) 2 (fun _ _ _ _ => rfl) ?_
  have h := sb_e h
  refine py_si (pc := 11) (len := 1) (cs := [26]) (t := 3) (n := 2) rfl rfl rfl rfl List.mem_cons_self hS2 ?_
  have hS4 : oS (uI h1 26 (Int32.ofInt 0).toNatClampNeg a2) := oS_uI (cs := [26]) (t := 3) (n := 2) rfl List.mem_cons_self hS2
  generalize (uI h1 26 (Int32.ofInt 0).toNatClampNeg a2) = h3 at h hS4 ⊢
  refine py_its (pc := 12) (pc1 := 13) (lv1 := [(0, .ref 21), (1, .ref c1), (2, .int a2), (3, .int a3), (4, .int a4)]) (st1 := [.ref 21]) 1 (fun _ _ _ _ => rfl) ?_
  refine py_g1 26 (pc := 13) (len := 3) (cs := [21]) rfl rfl rfl List.mem_cons_self hS4 ?_
  refine py_its (pc := 16) (pc1 := 18) (lv1 := [(0, .ref 21), (1, .ref c1), (2, .int a2), (3, .int a3), (4, .int a4)]) (st1 := [.int a3, .int (Int32.ofInt 1), .ref 26]) 2 (fun _ _ _ _ => rfl) ?_
  have h := sb_e h
  refine py_si (pc := 18) (len := 1) (cs := [26]) (t := 3) (n := 2) rfl rfl rfl rfl List.mem_cons_self hS4 ?_
  have hS6 : oS (uI h3 26 (Int32.ofInt 1).toNatClampNeg a3) := oS_uI (cs := [26]) (t := 3) (n := 2) rfl List.mem_cons_self hS4
  generalize (uI h3 26 (Int32.ofInt 1).toNatClampNeg a3) = h5 at h hS6 ⊢
  refine py_its (pc := 19) (pc1 := 22) (lv1 := [(0, .ref 21), (1, .ref c1), (2, .int a2), (3, .int a3), (4, .int a4)]) (st1 := [.int a4, .ref 21]) 2 (fun _ _ _ _ => rfl) ?_
  have h := sb_e h
  refine py_pI (pc := 22) (len := 3) (cs := [21]) rfl rfl rfl List.mem_cons_self hS6 rfl rfl rfl rfl ?_
  have hS8 : oS (wF h5 21 3 (.int a4)) := oS_wI (cs := [21]) (ci := 1) rfl List.mem_cons_self hS6
  generalize (wF h5 21 3 (.int a4)) = h7 at h hS8 ⊢
  have h := Option.some.inj h
  subst h
  exact py_rt (pc := 25) (len := 1) rfl rfl hS8
/-! Town_hasDrawing -/
noncomputable def fn_Town_hasDrawing (a1 : Int32) (hp : px_H) : Option (Int32) :=
  bif px_cmp .lt a1 0 then
    some (Int32.ofInt 0)
  else
    bif px_cmp .ge a1 (gI hp 1 8) then
      some (Int32.ofInt 0)
    else
      some (Int32.ofInt 1)
theorem fx_Town_hasDrawing {a1 : Int32} {hp : px_H} {res : Int32} (hS : oS hp) (h : fn_Town_hasDrawing a1 hp = some res) : px_C nm_T nm_P mi_Town_hasDrawing [.ref 1, .int a1] hp (some (.int res)) hp ∧ oS hp := by
  unfold fn_Town_hasDrawing at h
  refine py_C (M := mm_Town_hasDrawing) rfl (Nat.le_of_ble_eq_true rfl) ?_
  show px_Y mm_Town_hasDrawing 0 [(0, .ref 1), (1, .int a1)] [] hp _ _
  refine py_its (pc := 0) (pc1 := 1) (lv1 := [(0, .ref 1), (1, .int a1)]) (st1 := [.int a1]) 1 (fun _ _ _ _ => rfl) ?_
  cases hb1 : px_cmp .lt a1 0 with
  | true =>
    have h := cd_t hb1 h
    refine py_if (pc := 1) (len := 3) true rfl hb1 ?_
    refine py_its (pc := 16) (pc1 := 17) (lv1 := [(0, .ref 1), (1, .int a1)]) (st1 := [.int (Int32.ofInt 0)]) 1 (fun _ _ _ _ => rfl) ?_
    have h := Option.some.inj h
    subst h
    exact py_ir (pc := 17) (len := 1) (ty := .boolean) rfl rfl (by decide) hS
  | false =>
    have h := cd_f hb1 h
    refine py_if (pc := 1) (len := 3) false rfl hb1 ?_
    refine py_its (pc := 4) (pc1 := 6) (lv1 := [(0, .ref 1), (1, .int a1)]) (st1 := [.ref 1, .int a1]) 2 (fun _ _ _ _ => rfl) ?_
    refine py_gI (pc := 6) (len := 3) (cs := [1]) rfl rfl rfl List.mem_cons_self hS ?_
    cases hb2 : px_cmp .ge a1 (gI hp 1 8) with
    | true =>
      have h := cd_t hb2 h
      refine py_ic (pc := 9) (len := 3) true rfl hb2 ?_
      refine py_its (pc := 16) (pc1 := 17) (lv1 := [(0, .ref 1), (1, .int a1)]) (st1 := [.int (Int32.ofInt 0)]) 1 (fun _ _ _ _ => rfl) ?_
      have h := Option.some.inj h
      subst h
      exact py_ir (pc := 17) (len := 1) (ty := .boolean) rfl rfl (by decide) hS
    | false =>
      have h := cd_f hb2 h
      refine py_ic (pc := 9) (len := 3) false rfl hb2 ?_
      refine py_its (pc := 12) (pc1 := 17) (lv1 := [(0, .ref 1), (1, .int a1)]) (st1 := [.int (Int32.ofInt 1)]) 2 (fun _ _ _ _ => rfl) ?_
      have h := Option.some.inj h
      subst h
      exact py_ir (pc := 17) (len := 1) (ty := .boolean) rfl rfl (by decide) hS
/-! Town_deadOn -/
noncomputable def fb_Town_deadOn_L4 (v1 : Int32) (hp : px_H) (rc : Int32 → Int32 → Option (Int32)) (v2 : Int32) (v3 : Int32) : Option (Int32) :=
  bif px_cmp .ge v3 (gI hp 1 0) then
    some v2
  else
    bif px_inR v3 10 then
    bif px_cmp .lt v1 (aI hp 6 v3.toNatClampNeg) then
      rc v2 (v3 + Int32.ofInt 1)
    else
      rc (v2 ||| ((Int32.ofInt 1) <<< (v3 &&& 31))) (v3 + Int32.ofInt 1)
    else none
noncomputable def fn_Town_deadOn_L4 (v1 : Int32) (hp : px_H) : Nat → Int32 → Int32 → Option (Int32)
  | 0 => fun _ _ => none
  | n + 1 => fb_Town_deadOn_L4 v1 hp (fn_Town_deadOn_L4 v1 hp n)
theorem fl_Town_deadOn_L4 {v1 : Int32} {hp : px_H}  : ∀ (n : Nat) (v2 : Int32) (v3 : Int32) (lv : List (Nat × Value)) (res : Int32), oS hp → lk lv [(0, .ref 1), (1, .int v1), (2, .int v2), (3, .int v3)] → fn_Town_deadOn_L4 v1 hp n v2 v3 = some res → px_Y mm_Town_deadOn 4 lv [] hp (some (.int res)) hp := by
  intro n
  induction n with
  | zero =>
    intro v2 v3 lv res hS hk h
    cases h
  | succ n ih =>
    intro v2 v3 lv res hS hk h
    have h : fb_Town_deadOn_L4 v1 hp (fn_Town_deadOn_L4 v1 hp n) v2 v3 = some res := h
    unfold fb_Town_deadOn_L4 at h
    refine py_iln (pc := 4) (len := 1) (j := 3) rfl hk rfl ?_
    refine py_aln (pc := 5) (len := 1) (j := 0) rfl hk rfl ?_
    refine py_gI (pc := 6) (len := 3) (cs := [1]) rfl rfl rfl List.mem_cons_self hS ?_
    cases hb1 : px_cmp .ge v3 (gI hp 1 0) with
    | true =>
      have h := cd_t hb1 h
      refine py_ic (pc := 9) (len := 3) true rfl hb1 ?_
      refine py_iln (pc := 34) (len := 1) (j := 2) rfl hk rfl ?_
      have h := Option.some.inj h
      subst h
      exact py_ir (pc := 35) (len := 1) (ty := .int) rfl rfl rfl hS
    | false =>
      have h := cd_f hb1 h
      refine py_ic (pc := 9) (len := 3) false rfl hb1 ?_
      refine py_iln (pc := 12) (len := 1) (j := 1) rfl hk rfl ?_
      refine py_aln (pc := 13) (len := 1) (j := 0) rfl hk rfl ?_
      refine py_g1 6 (pc := 14) (len := 3) (cs := [1]) rfl rfl rfl List.mem_cons_self hS ?_
      refine py_iln (pc := 17) (len := 1) (j := 3) rfl hk rfl ?_
      obtain ⟨hi2, h⟩ := cd_n h
      refine py_ai (pc := 18) (len := 1) (cs := [6]) (t := 16) (n := 10) rfl rfl rfl hi2 List.mem_cons_self hS ?_
      cases hb3 : px_cmp .lt v1 (aI hp 6 v3.toNatClampNeg) with
      | true =>
        have h := cd_t hb3 h
        refine py_ic (pc := 19) (len := 3) true rfl hb3 ?_
        refine py_inc (pc := 28) (len := 3) (j := 3) (n := 1) rfl rfl hk rfl (fun lv4 hk5 => ?_)
        have hk5 : lk lv4 [(3, .int (v3 + Int32.ofInt 1)), (0, .ref 1), (1, .int v1), (2, .int v2)] := hk5
        refine py_its (pc := 31) (pc1 := 4) (lv1 := lv4) (st1 := []) 1 (fun _ _ _ _ => rfl) ?_
        exact ih v2 (v3 + Int32.ofInt 1) lv4 _ hS ⟨lk_find hk5 rfl, lk_find hk5 rfl, lk_find hk5 rfl, lk_find hk5 rfl, trivial⟩ h
      | false =>
        have h := cd_f hb3 h
        refine py_ic (pc := 19) (len := 3) false rfl hb3 ?_
        refine py_iln (pc := 22) (len := 1) (j := 2) rfl hk rfl ?_
        refine py_its (pc := 23) (pc1 := 24) (lv1 := lv) (st1 := [.int (Int32.ofInt 1), .int v2]) 1 (fun _ _ _ _ => rfl) ?_
        refine py_iln (pc := 24) (len := 1) (j := 3) rfl hk rfl ?_
        refine py_its (pc := 25) (pc1 := 27) (lv1 := lv) (st1 := [.int (v2 ||| ((Int32.ofInt 1) <<< (v3 &&& 31)))]) 2 (fun _ _ _ _ => rfl) ?_
        refine py_sin (pc := 27) (len := 1) (j := 2) rfl rfl hk (fun lv6 hk7 => ?_)
        have hk7 : lk lv6 [(2, .int (v2 ||| ((Int32.ofInt 1) <<< (v3 &&& 31)))), (0, .ref 1), (1, .int v1), (3, .int v3)] := hk7
        refine py_inc (pc := 28) (len := 3) (j := 3) (n := 1) rfl rfl hk7 rfl (fun lv8 hk9 => ?_)
        have hk9 : lk lv8 [(3, .int (v3 + Int32.ofInt 1)), (2, .int (v2 ||| ((Int32.ofInt 1) <<< (v3 &&& 31)))), (0, .ref 1), (1, .int v1)] := hk9
        refine py_its (pc := 31) (pc1 := 4) (lv1 := lv8) (st1 := []) 1 (fun _ _ _ _ => rfl) ?_
        exact ih (v2 ||| ((Int32.ofInt 1) <<< (v3 &&& 31))) (v3 + Int32.ofInt 1) lv8 _ hS ⟨lk_find hk9 rfl, lk_find hk9 rfl, lk_find hk9 rfl, lk_find hk9 rfl, trivial⟩ h
noncomputable def fn_Town_deadOn (a1 : Int32) (hp : px_H) : Option (Int32) :=
  fn_Town_deadOn_L4 a1 hp fu (Int32.ofInt 0) (Int32.ofInt 0)
theorem fx_Town_deadOn {a1 : Int32} {hp : px_H} {res : Int32} (hS : oS hp) (h : fn_Town_deadOn a1 hp = some res) : px_C nm_T nm_P mi_Town_deadOn [.ref 1, .int a1] hp (some (.int res)) hp ∧ oS hp := by
  unfold fn_Town_deadOn at h
  refine py_C (M := mm_Town_deadOn) rfl (Nat.le_of_ble_eq_true rfl) ?_
  show px_Y mm_Town_deadOn 0 [(0, .ref 1), (1, .int a1)] [] hp _ _
  refine py_its (pc := 0) (pc1 := 4) (lv1 := [(3, .int (Int32.ofInt 0)), (2, .int (Int32.ofInt 0)), (0, .ref 1), (1, .int a1)]) (st1 := []) 4 (fun _ _ _ _ => rfl) ?_
  exact fl_Town_deadOn_L4 fu (Int32.ofInt 0) (Int32.ofInt 0) [(3, .int (Int32.ofInt 0)), (2, .int (Int32.ofInt 0)), (0, .ref 1), (1, .int a1)] _ hS ⟨rfl, rfl, rfl, rfl, trivial⟩ h
/-! Town_indebtedOn -/
noncomputable def fb_Town_indebtedOn_L4 (v1 : Int32) (hp : px_H) (rc : Int32 → Int32 → Option (Int32)) (v2 : Int32) (v3 : Int32) : Option (Int32) :=
  bif px_cmp .ge v3 (gI hp 1 0) then
    some v2
  else
    bif px_inR v3 10 then
    bif px_cmp .ge v1 (aI hp 3 v3.toNatClampNeg) then
      rc v2 (v3 + Int32.ofInt 1)
    else
      rc (v2 ||| ((Int32.ofInt 1) <<< (v3 &&& 31))) (v3 + Int32.ofInt 1)
    else none
noncomputable def fn_Town_indebtedOn_L4 (v1 : Int32) (hp : px_H) : Nat → Int32 → Int32 → Option (Int32)
  | 0 => fun _ _ => none
  | n + 1 => fb_Town_indebtedOn_L4 v1 hp (fn_Town_indebtedOn_L4 v1 hp n)
theorem fl_Town_indebtedOn_L4 {v1 : Int32} {hp : px_H}  : ∀ (n : Nat) (v2 : Int32) (v3 : Int32) (lv : List (Nat × Value)) (res : Int32), oS hp → lk lv [(0, .ref 1), (1, .int v1), (2, .int v2), (3, .int v3)] → fn_Town_indebtedOn_L4 v1 hp n v2 v3 = some res → px_Y mm_Town_indebtedOn 4 lv [] hp (some (.int res)) hp := by
  intro n
  induction n with
  | zero =>
    intro v2 v3 lv res hS hk h
    cases h
  | succ n ih =>
    intro v2 v3 lv res hS hk h
    have h : fb_Town_indebtedOn_L4 v1 hp (fn_Town_indebtedOn_L4 v1 hp n) v2 v3 = some res := h
    unfold fb_Town_indebtedOn_L4 at h
    refine py_iln (pc := 4) (len := 1) (j := 3) rfl hk rfl ?_
    refine py_aln (pc := 5) (len := 1) (j := 0) rfl hk rfl ?_
    refine py_gI (pc := 6) (len := 3) (cs := [1]) rfl rfl rfl List.mem_cons_self hS ?_
    cases hb1 : px_cmp .ge v3 (gI hp 1 0) with
    | true =>
      have h := cd_t hb1 h
      refine py_ic (pc := 9) (len := 3) true rfl hb1 ?_
      refine py_iln (pc := 34) (len := 1) (j := 2) rfl hk rfl ?_
      have h := Option.some.inj h
      subst h
      exact py_ir (pc := 35) (len := 1) (ty := .int) rfl rfl rfl hS
    | false =>
      have h := cd_f hb1 h
      refine py_ic (pc := 9) (len := 3) false rfl hb1 ?_
      refine py_iln (pc := 12) (len := 1) (j := 1) rfl hk rfl ?_
      refine py_aln (pc := 13) (len := 1) (j := 0) rfl hk rfl ?_
      refine py_g1 3 (pc := 14) (len := 3) (cs := [1]) rfl rfl rfl List.mem_cons_self hS ?_
      refine py_iln (pc := 17) (len := 1) (j := 3) rfl hk rfl ?_
      obtain ⟨hi2, h⟩ := cd_n h
      refine py_ai (pc := 18) (len := 1) (cs := [3]) (t := 13) (n := 10) rfl rfl rfl hi2 List.mem_cons_self hS ?_
      cases hb3 : px_cmp .ge v1 (aI hp 3 v3.toNatClampNeg) with
      | true =>
        have h := cd_t hb3 h
        refine py_ic (pc := 19) (len := 3) true rfl hb3 ?_
        refine py_inc (pc := 28) (len := 3) (j := 3) (n := 1) rfl rfl hk rfl (fun lv4 hk5 => ?_)
        have hk5 : lk lv4 [(3, .int (v3 + Int32.ofInt 1)), (0, .ref 1), (1, .int v1), (2, .int v2)] := hk5
        refine py_its (pc := 31) (pc1 := 4) (lv1 := lv4) (st1 := []) 1 (fun _ _ _ _ => rfl) ?_
        exact ih v2 (v3 + Int32.ofInt 1) lv4 _ hS ⟨lk_find hk5 rfl, lk_find hk5 rfl, lk_find hk5 rfl, lk_find hk5 rfl, trivial⟩ h
      | false =>
        have h := cd_f hb3 h
        refine py_ic (pc := 19) (len := 3) false rfl hb3 ?_
        refine py_iln (pc := 22) (len := 1) (j := 2) rfl hk rfl ?_
        refine py_its (pc := 23) (pc1 := 24) (lv1 := lv) (st1 := [.int (Int32.ofInt 1), .int v2]) 1 (fun _ _ _ _ => rfl) ?_
        refine py_iln (pc := 24) (len := 1) (j := 3) rfl hk rfl ?_
        refine py_its (pc := 25) (pc1 := 27) (lv1 := lv) (st1 := [.int (v2 ||| ((Int32.ofInt 1) <<< (v3 &&& 31)))]) 2 (fun _ _ _ _ => rfl) ?_
        refine py_sin (pc := 27) (len := 1) (j := 2) rfl rfl hk (fun lv6 hk7 => ?_)
        have hk7 : lk lv6 [(2, .int (v2 ||| ((Int32.ofInt 1) <<< (v3 &&& 31)))), (0, .ref 1), (1, .int v1), (3, .int v3)] := hk7
        refine py_inc (pc := 28) (len := 3) (j := 3) (n := 1) rfl rfl hk7 rfl (fun lv8 hk9 => ?_)
        have hk9 : lk lv8 [(3, .int (v3 + Int32.ofInt 1)), (2, .int (v2 ||| ((Int32.ofInt 1) <<< (v3 &&& 31)))), (0, .ref 1), (1, .int v1)] := hk9
        refine py_its (pc := 31) (pc1 := 4) (lv1 := lv8) (st1 := []) 1 (fun _ _ _ _ => rfl) ?_
        exact ih (v2 ||| ((Int32.ofInt 1) <<< (v3 &&& 31))) (v3 + Int32.ofInt 1) lv8 _ hS ⟨lk_find hk9 rfl, lk_find hk9 rfl, lk_find hk9 rfl, lk_find hk9 rfl, trivial⟩ h
noncomputable def fn_Town_indebtedOn (a1 : Int32) (hp : px_H) : Option (Int32) :=
  fn_Town_indebtedOn_L4 a1 hp fu (Int32.ofInt 0) (Int32.ofInt 0)
theorem fx_Town_indebtedOn {a1 : Int32} {hp : px_H} {res : Int32} (hS : oS hp) (h : fn_Town_indebtedOn a1 hp = some res) : px_C nm_T nm_P mi_Town_indebtedOn [.ref 1, .int a1] hp (some (.int res)) hp ∧ oS hp := by
  unfold fn_Town_indebtedOn at h
  refine py_C (M := mm_Town_indebtedOn) rfl (Nat.le_of_ble_eq_true rfl) ?_
  show px_Y mm_Town_indebtedOn 0 [(0, .ref 1), (1, .int a1)] [] hp _ _
  refine py_its (pc := 0) (pc1 := 4) (lv1 := [(3, .int (Int32.ofInt 0)), (2, .int (Int32.ofInt 0)), (0, .ref 1), (1, .int a1)]) (st1 := []) 4 (fun _ _ _ _ => rfl) ?_
  exact fl_Town_indebtedOn_L4 fu (Int32.ofInt 0) (Int32.ofInt 0) [(3, .int (Int32.ofInt 0)), (2, .int (Int32.ofInt 0)), (0, .ref 1), (1, .int a1)] _ hS ⟨rfl, rfl, rfl, rfl, trivial⟩ h
/-! Town_awayOn -/
noncomputable def fb_Town_awayOn_L4 (v1 : Int32) (hp : px_H) (rc : Int32 → Int32 → Option (Int32)) (v2 : Int32) (v3 : Int32) : Option (Int32) :=
  bif px_cmp .ge v3 (gI hp 1 0) then
    some v2
  else
    bif px_inR v3 10 then
    bif px_cmp .lt v1 (aI hp 4 v3.toNatClampNeg) then
      rc v2 (v3 + Int32.ofInt 1)
    else
      bif px_inR v3 10 then
      bif px_cmp .gt v1 (aI hp 5 v3.toNatClampNeg) then
        rc v2 (v3 + Int32.ofInt 1)
      else
        rc (v2 ||| ((Int32.ofInt 1) <<< (v3 &&& 31))) (v3 + Int32.ofInt 1)
      else none
    else none
noncomputable def fn_Town_awayOn_L4 (v1 : Int32) (hp : px_H) : Nat → Int32 → Int32 → Option (Int32)
  | 0 => fun _ _ => none
  | n + 1 => fb_Town_awayOn_L4 v1 hp (fn_Town_awayOn_L4 v1 hp n)
theorem fl_Town_awayOn_L4 {v1 : Int32} {hp : px_H}  : ∀ (n : Nat) (v2 : Int32) (v3 : Int32) (lv : List (Nat × Value)) (res : Int32), oS hp → lk lv [(0, .ref 1), (1, .int v1), (2, .int v2), (3, .int v3)] → fn_Town_awayOn_L4 v1 hp n v2 v3 = some res → px_Y mm_Town_awayOn 4 lv [] hp (some (.int res)) hp := by
  intro n
  induction n with
  | zero =>
    intro v2 v3 lv res hS hk h
    cases h
  | succ n ih =>
    intro v2 v3 lv res hS hk h
    have h : fb_Town_awayOn_L4 v1 hp (fn_Town_awayOn_L4 v1 hp n) v2 v3 = some res := h
    unfold fb_Town_awayOn_L4 at h
    refine py_iln (pc := 4) (len := 1) (j := 3) rfl hk rfl ?_
    refine py_aln (pc := 5) (len := 1) (j := 0) rfl hk rfl ?_
    refine py_gI (pc := 6) (len := 3) (cs := [1]) rfl rfl rfl List.mem_cons_self hS ?_
    cases hb1 : px_cmp .ge v3 (gI hp 1 0) with
    | true =>
      have h := cd_t hb1 h
      refine py_ic (pc := 9) (len := 3) true rfl hb1 ?_
      refine py_iln (pc := 44) (len := 1) (j := 2) rfl hk rfl ?_
      have h := Option.some.inj h
      subst h
      exact py_ir (pc := 45) (len := 1) (ty := .int) rfl rfl rfl hS
    | false =>
      have h := cd_f hb1 h
      refine py_ic (pc := 9) (len := 3) false rfl hb1 ?_
      refine py_iln (pc := 12) (len := 1) (j := 1) rfl hk rfl ?_
      refine py_aln (pc := 13) (len := 1) (j := 0) rfl hk rfl ?_
      refine py_g1 4 (pc := 14) (len := 3) (cs := [1]) rfl rfl rfl List.mem_cons_self hS ?_
      refine py_iln (pc := 17) (len := 1) (j := 3) rfl hk rfl ?_
      obtain ⟨hi2, h⟩ := cd_n h
      refine py_ai (pc := 18) (len := 1) (cs := [4]) (t := 14) (n := 10) rfl rfl rfl hi2 List.mem_cons_self hS ?_
      cases hb3 : px_cmp .lt v1 (aI hp 4 v3.toNatClampNeg) with
      | true =>
        have h := cd_t hb3 h
        refine py_ic (pc := 19) (len := 3) true rfl hb3 ?_
        refine py_inc (pc := 38) (len := 3) (j := 3) (n := 1) rfl rfl hk rfl (fun lv4 hk5 => ?_)
        have hk5 : lk lv4 [(3, .int (v3 + Int32.ofInt 1)), (0, .ref 1), (1, .int v1), (2, .int v2)] := hk5
        refine py_its (pc := 41) (pc1 := 4) (lv1 := lv4) (st1 := []) 1 (fun _ _ _ _ => rfl) ?_
        exact ih v2 (v3 + Int32.ofInt 1) lv4 _ hS ⟨lk_find hk5 rfl, lk_find hk5 rfl, lk_find hk5 rfl, lk_find hk5 rfl, trivial⟩ h
      | false =>
        have h := cd_f hb3 h
        refine py_ic (pc := 19) (len := 3) false rfl hb3 ?_
        refine py_iln (pc := 22) (len := 1) (j := 1) rfl hk rfl ?_
        refine py_aln (pc := 23) (len := 1) (j := 0) rfl hk rfl ?_
        refine py_g1 5 (pc := 24) (len := 3) (cs := [1]) rfl rfl rfl List.mem_cons_self hS ?_
        refine py_iln (pc := 27) (len := 1) (j := 3) rfl hk rfl ?_
        obtain ⟨hi6, h⟩ := cd_n h
        refine py_ai (pc := 28) (len := 1) (cs := [5]) (t := 15) (n := 10) rfl rfl rfl hi6 List.mem_cons_self hS ?_
        cases hb7 : px_cmp .gt v1 (aI hp 5 v3.toNatClampNeg) with
        | true =>
          have h := cd_t hb7 h
          refine py_ic (pc := 29) (len := 3) true rfl hb7 ?_
          refine py_inc (pc := 38) (len := 3) (j := 3) (n := 1) rfl rfl hk rfl (fun lv8 hk9 => ?_)
          have hk9 : lk lv8 [(3, .int (v3 + Int32.ofInt 1)), (0, .ref 1), (1, .int v1), (2, .int v2)] := hk9
          refine py_its (pc := 41) (pc1 := 4) (lv1 := lv8) (st1 := []) 1 (fun _ _ _ _ => rfl) ?_
          exact ih v2 (v3 + Int32.ofInt 1) lv8 _ hS ⟨lk_find hk9 rfl, lk_find hk9 rfl, lk_find hk9 rfl, lk_find hk9 rfl, trivial⟩ h
        | false =>
          have h := cd_f hb7 h
          refine py_ic (pc := 29) (len := 3) false rfl hb7 ?_
          refine py_iln (pc := 32) (len := 1) (j := 2) rfl hk rfl ?_
          refine py_its (pc := 33) (pc1 := 34) (lv1 := lv) (st1 := [.int (Int32.ofInt 1), .int v2]) 1 (fun _ _ _ _ => rfl) ?_
          refine py_iln (pc := 34) (len := 1) (j := 3) rfl hk rfl ?_
          refine py_its (pc := 35) (pc1 := 37) (lv1 := lv) (st1 := [.int (v2 ||| ((Int32.ofInt 1) <<< (v3 &&& 31)))]) 2 (fun _ _ _ _ => rfl) ?_
          refine py_sin (pc := 37) (len := 1) (j := 2) rfl rfl hk (fun lv10 hk11 => ?_)
          have hk11 : lk lv10 [(2, .int (v2 ||| ((Int32.ofInt 1) <<< (v3 &&& 31)))), (0, .ref 1), (1, .int v1), (3, .int v3)] := hk11
          refine py_inc (pc := 38) (len := 3) (j := 3) (n := 1) rfl rfl hk11 rfl (fun lv12 hk13 => ?_)
          have hk13 : lk lv12 [(3, .int (v3 + Int32.ofInt 1)), (2, .int (v2 ||| ((Int32.ofInt 1) <<< (v3 &&& 31)))), (0, .ref 1), (1, .int v1)] := hk13
          refine py_its (pc := 41) (pc1 := 4) (lv1 := lv12) (st1 := []) 1 (fun _ _ _ _ => rfl) ?_
          exact ih (v2 ||| ((Int32.ofInt 1) <<< (v3 &&& 31))) (v3 + Int32.ofInt 1) lv12 _ hS ⟨lk_find hk13 rfl, lk_find hk13 rfl, lk_find hk13 rfl, lk_find hk13 rfl, trivial⟩ h
noncomputable def fn_Town_awayOn (a1 : Int32) (hp : px_H) : Option (Int32) :=
  fn_Town_awayOn_L4 a1 hp fu (Int32.ofInt 0) (Int32.ofInt 0)
theorem fx_Town_awayOn {a1 : Int32} {hp : px_H} {res : Int32} (hS : oS hp) (h : fn_Town_awayOn a1 hp = some res) : px_C nm_T nm_P mi_Town_awayOn [.ref 1, .int a1] hp (some (.int res)) hp ∧ oS hp := by
  unfold fn_Town_awayOn at h
  refine py_C (M := mm_Town_awayOn) rfl (Nat.le_of_ble_eq_true rfl) ?_
  show px_Y mm_Town_awayOn 0 [(0, .ref 1), (1, .int a1)] [] hp _ _
  refine py_its (pc := 0) (pc1 := 4) (lv1 := [(3, .int (Int32.ofInt 0)), (2, .int (Int32.ofInt 0)), (0, .ref 1), (1, .int a1)]) (st1 := []) 4 (fun _ _ _ _ => rfl) ?_
  exact fl_Town_awayOn_L4 fu (Int32.ofInt 0) (Int32.ofInt 0) [(3, .int (Int32.ofInt 0)), (2, .int (Int32.ofInt 0)), (0, .ref 1), (1, .int a1)] _ hS ⟨rfl, rfl, rfl, rfl, trivial⟩ h
/-! Town_ofHouse -/
noncomputable def fb_Town_ofHouse_L4 (v1 : Int32) (hp : px_H) (rc : Int32 → Int32 → Option (Int32)) (v2 : Int32) (v3 : Int32) : Option (Int32) :=
  bif px_cmp .ge v3 (gI hp 1 0) then
    some v2
  else
    bif px_inR v3 10 then
    bif px_cmp .ne (aI hp 2 v3.toNatClampNeg) v1 then
      rc v2 (v3 + Int32.ofInt 1)
    else
      rc (v2 ||| ((Int32.ofInt 1) <<< (v3 &&& 31))) (v3 + Int32.ofInt 1)
    else none
noncomputable def fn_Town_ofHouse_L4 (v1 : Int32) (hp : px_H) : Nat → Int32 → Int32 → Option (Int32)
  | 0 => fun _ _ => none
  | n + 1 => fb_Town_ofHouse_L4 v1 hp (fn_Town_ofHouse_L4 v1 hp n)
theorem fl_Town_ofHouse_L4 {v1 : Int32} {hp : px_H}  : ∀ (n : Nat) (v2 : Int32) (v3 : Int32) (lv : List (Nat × Value)) (res : Int32), oS hp → lk lv [(0, .ref 1), (1, .int v1), (2, .int v2), (3, .int v3)] → fn_Town_ofHouse_L4 v1 hp n v2 v3 = some res → px_Y mm_Town_ofHouse 4 lv [] hp (some (.int res)) hp := by
  intro n
  induction n with
  | zero =>
    intro v2 v3 lv res hS hk h
    cases h
  | succ n ih =>
    intro v2 v3 lv res hS hk h
    have h : fb_Town_ofHouse_L4 v1 hp (fn_Town_ofHouse_L4 v1 hp n) v2 v3 = some res := h
    unfold fb_Town_ofHouse_L4 at h
    refine py_iln (pc := 4) (len := 1) (j := 3) rfl hk rfl ?_
    refine py_aln (pc := 5) (len := 1) (j := 0) rfl hk rfl ?_
    refine py_gI (pc := 6) (len := 3) (cs := [1]) rfl rfl rfl List.mem_cons_self hS ?_
    cases hb1 : px_cmp .ge v3 (gI hp 1 0) with
    | true =>
      have h := cd_t hb1 h
      refine py_ic (pc := 9) (len := 3) true rfl hb1 ?_
      refine py_iln (pc := 34) (len := 1) (j := 2) rfl hk rfl ?_
      have h := Option.some.inj h
      subst h
      exact py_ir (pc := 35) (len := 1) (ty := .int) rfl rfl rfl hS
    | false =>
      have h := cd_f hb1 h
      refine py_ic (pc := 9) (len := 3) false rfl hb1 ?_
      refine py_aln (pc := 12) (len := 1) (j := 0) rfl hk rfl ?_
      refine py_g1 2 (pc := 13) (len := 3) (cs := [1]) rfl rfl rfl List.mem_cons_self hS ?_
      refine py_iln (pc := 16) (len := 1) (j := 3) rfl hk rfl ?_
      obtain ⟨hi2, h⟩ := cd_n h
      refine py_ai (pc := 17) (len := 1) (cs := [2]) (t := 12) (n := 10) rfl rfl rfl hi2 List.mem_cons_self hS ?_
      refine py_iln (pc := 18) (len := 1) (j := 1) rfl hk rfl ?_
      cases hb3 : px_cmp .ne (aI hp 2 v3.toNatClampNeg) v1 with
      | true =>
        have h := cd_t hb3 h
        refine py_ic (pc := 19) (len := 3) true rfl hb3 ?_
        refine py_inc (pc := 28) (len := 3) (j := 3) (n := 1) rfl rfl hk rfl (fun lv4 hk5 => ?_)
        have hk5 : lk lv4 [(3, .int (v3 + Int32.ofInt 1)), (0, .ref 1), (1, .int v1), (2, .int v2)] := hk5
        refine py_its (pc := 31) (pc1 := 4) (lv1 := lv4) (st1 := []) 1 (fun _ _ _ _ => rfl) ?_
        exact ih v2 (v3 + Int32.ofInt 1) lv4 _ hS ⟨lk_find hk5 rfl, lk_find hk5 rfl, lk_find hk5 rfl, lk_find hk5 rfl, trivial⟩ h
      | false =>
        have h := cd_f hb3 h
        refine py_ic (pc := 19) (len := 3) false rfl hb3 ?_
        refine py_iln (pc := 22) (len := 1) (j := 2) rfl hk rfl ?_
        refine py_its (pc := 23) (pc1 := 24) (lv1 := lv) (st1 := [.int (Int32.ofInt 1), .int v2]) 1 (fun _ _ _ _ => rfl) ?_
        refine py_iln (pc := 24) (len := 1) (j := 3) rfl hk rfl ?_
        refine py_its (pc := 25) (pc1 := 27) (lv1 := lv) (st1 := [.int (v2 ||| ((Int32.ofInt 1) <<< (v3 &&& 31)))]) 2 (fun _ _ _ _ => rfl) ?_
        refine py_sin (pc := 27) (len := 1) (j := 2) rfl rfl hk (fun lv6 hk7 => ?_)
        have hk7 : lk lv6 [(2, .int (v2 ||| ((Int32.ofInt 1) <<< (v3 &&& 31)))), (0, .ref 1), (1, .int v1), (3, .int v3)] := hk7
        refine py_inc (pc := 28) (len := 3) (j := 3) (n := 1) rfl rfl hk7 rfl (fun lv8 hk9 => ?_)
        have hk9 : lk lv8 [(3, .int (v3 + Int32.ofInt 1)), (2, .int (v2 ||| ((Int32.ofInt 1) <<< (v3 &&& 31)))), (0, .ref 1), (1, .int v1)] := hk9
        refine py_its (pc := 31) (pc1 := 4) (lv1 := lv8) (st1 := []) 1 (fun _ _ _ _ => rfl) ?_
        exact ih (v2 ||| ((Int32.ofInt 1) <<< (v3 &&& 31))) (v3 + Int32.ofInt 1) lv8 _ hS ⟨lk_find hk9 rfl, lk_find hk9 rfl, lk_find hk9 rfl, lk_find hk9 rfl, trivial⟩ h
noncomputable def fn_Town_ofHouse (a1 : Int32) (hp : px_H) : Option (Int32) :=
  fn_Town_ofHouse_L4 a1 hp fu (Int32.ofInt 0) (Int32.ofInt 0)
theorem fx_Town_ofHouse {a1 : Int32} {hp : px_H} {res : Int32} (hS : oS hp) (h : fn_Town_ofHouse a1 hp = some res) : px_C nm_T nm_P mi_Town_ofHouse [.ref 1, .int a1] hp (some (.int res)) hp ∧ oS hp := by
  unfold fn_Town_ofHouse at h
  refine py_C (M := mm_Town_ofHouse) rfl (Nat.le_of_ble_eq_true rfl) ?_
  show px_Y mm_Town_ofHouse 0 [(0, .ref 1), (1, .int a1)] [] hp _ _
  refine py_its (pc := 0) (pc1 := 4) (lv1 := [(3, .int (Int32.ofInt 0)), (2, .int (Int32.ofInt 0)), (0, .ref 1), (1, .int a1)]) (st1 := []) 4 (fun _ _ _ _ => rfl) ?_
  exact fl_Town_ofHouse_L4 fu (Int32.ofInt 0) (Int32.ofInt 0) [(3, .int (Int32.ofInt 0)), (2, .int (Int32.ofInt 0)), (0, .ref 1), (1, .int a1)] _ hS ⟨rfl, rfl, rfl, rfl, trivial⟩ h
/-! Course_ready -/
noncomputable def fb_Course_ready_L96  (rc : Int32 → px_H → Option (px_H)) (v3 : Int32) (hp : px_H) : Option (px_H) :=
  bif px_cmp .ge v3 (gI hp 1 0) then
    some hp
  else
    bif px_inR v3 10 then
    (fn_Town_ofHouse (aI hp 2 v3.toNatClampNeg) hp).bind fun q31 =>
    bif px_inR v3 10 then
    sb (uI hp 27 v3.toNatClampNeg q31) fun h35 =>
    rc (v3 + Int32.ofInt 1) h35
    else none
    else none
noncomputable def fn_Course_ready_L96  : Nat → Int32 → px_H → Option (px_H)
  | 0 => fun _ _ => none
  | n + 1 => fb_Course_ready_L96  (fn_Course_ready_L96  n)
theorem fl_Course_ready_L96   : ∀ (n : Nat) (v3 : Int32) (hp : px_H) (lv : List (Nat × Value)) (res : px_H), oS hp → lk lv [(0, .ref 21), (3, .int v3)] → fn_Course_ready_L96  n v3 hp = some res → px_Y mm_Course_ready 96 lv [] hp none res := by
  intro n
  induction n with
  | zero =>
    intro v3 hp lv res hS hk h
    cases h
  | succ n ih =>
    intro v3 hp lv res hS hk h
    have h : fb_Course_ready_L96  (fn_Course_ready_L96  n) v3 hp = some res := h
    unfold fb_Course_ready_L96 at h
    refine py_iln (pc := 96) (len := 1) (j := 3) rfl hk rfl ?_
    refine py_aln (pc := 97) (len := 1) (j := 0) rfl hk rfl ?_
    refine py_g1 1 (pc := 98) (len := 3) (cs := [21]) rfl rfl rfl List.mem_cons_self hS ?_
    refine py_gI (pc := 101) (len := 3) (cs := [1]) rfl rfl rfl List.mem_cons_self hS ?_
    cases hb29 : px_cmp .ge v3 (gI hp 1 0) with
    | true =>
      have h := cd_t hb29 h
      refine py_ic (pc := 104) (len := 3) true rfl hb29 ?_
      have h := Option.some.inj h
      subst h
      exact py_rt (pc := 135) (len := 1) rfl rfl hS
    | false =>
      have h := cd_f hb29 h
      refine py_ic (pc := 104) (len := 3) false rfl hb29 ?_
      refine py_aln (pc := 107) (len := 1) (j := 0) rfl hk rfl ?_
      refine py_g1 27 (pc := 108) (len := 3) (cs := [21]) rfl rfl rfl List.mem_cons_self hS ?_
      refine py_iln (pc := 111) (len := 1) (j := 3) rfl hk rfl ?_
      refine py_aln (pc := 112) (len := 1) (j := 0) rfl hk rfl ?_
      refine py_g1 1 (pc := 113) (len := 3) (cs := [21]) rfl rfl rfl List.mem_cons_self hS ?_
      refine py_aln (pc := 116) (len := 1) (j := 0) rfl hk rfl ?_
      refine py_g1 1 (pc := 117) (len := 3) (cs := [21]) rfl rfl rfl List.mem_cons_self hS ?_
      refine py_g1 2 (pc := 120) (len := 3) (cs := [1]) rfl rfl rfl List.mem_cons_self hS ?_
      refine py_iln (pc := 123) (len := 1) (j := 3) rfl hk rfl ?_
      obtain ⟨hi30, h⟩ := cd_n h
      refine py_ai (pc := 124) (len := 1) (cs := [2]) (t := 12) (n := 10) rfl rfl rfl hi30 List.mem_cons_self hS ?_
      obtain ⟨q31, hq32, h⟩ := bd_e h
      have hC33 := (fx_Town_ofHouse hS hq32).1
      refine py_vi (pc := 125) (mi := mi_Town_ofHouse) (cs := [1]) (N := mm_Town_ofHouse) rfl rfl rfl rfl List.mem_cons_self hS rfl (Nat.le_of_ble_eq_true rfl) (Nat.le_of_ble_eq_true rfl) rfl rfl hC33 ?_
      show px_Y mm_Course_ready 128 lv [.int q31, .int v3, .ref 27] hp _ _
      obtain ⟨hi34, h⟩ := cd_n h
      have h := sb_e h
      refine py_si (pc := 128) (len := 1) (cs := [27]) (t := 4) (n := 10) rfl rfl rfl hi34 List.mem_cons_self hS ?_
      have hS36 : oS (uI hp 27 v3.toNatClampNeg q31) := oS_uI (cs := [27]) (t := 4) (n := 10) rfl List.mem_cons_self hS
      generalize (uI hp 27 v3.toNatClampNeg q31) = h35 at h hS36 ⊢
      refine py_inc (pc := 129) (len := 3) (j := 3) (n := 1) rfl rfl hk rfl (fun lv37 hk38 => ?_)
      have hk38 : lk lv37 [(3, .int (v3 + Int32.ofInt 1)), (0, .ref 21)] := hk38
      refine py_its (pc := 132) (pc1 := 96) (lv1 := lv37) (st1 := []) 1 (fun _ _ _ _ => rfl) ?_
      exact ih (v3 + Int32.ofInt 1) h35 lv37 _ hS36 ⟨lk_find hk38 rfl, lk_find hk38 rfl, trivial⟩ h
noncomputable def fn_Course_ready (a1 : Int32) (hp : px_H) : Option (px_H) :=
  (fn_Town_hasDrawing a1 hp).bind fun q1 =>
  bif px_cmp .ne q1 0 then
    bif px_inR a1 6 then
    sb (wF hp 21 4 (.int a1)) fun h6 =>
    bif px_inR a1 6 then
    sb (wF h6 21 5 (.int (aI h6 10 a1.toNatClampNeg))) fun h9 =>
    bif px_inR a1 6 then
    sb (wF h9 21 6 (.int (aI h9 11 a1.toNatClampNeg))) fun h12 =>
    (fn_Town_deadOn (aI hp 9 a1.toNatClampNeg) h12).bind fun q14 =>
    sb (wF h12 21 7 (.int q14)) fun h17 =>
    (fn_Town_indebtedOn (aI hp 9 a1.toNatClampNeg) h17).bind fun q19 =>
    sb (wF h17 21 8 (.int q19)) fun h22 =>
    (fn_Town_awayOn (aI hp 9 a1.toNatClampNeg) h22).bind fun q24 =>
    sb (wF h22 21 9 (.int (q24 ||| (gI h22 21 3)))) fun h27 =>
    fn_Course_ready_L96 fu (Int32.ofInt 0) h27
    else none
    else none
    else none
  else
    some hp
theorem fx_Course_ready {a1 : Int32} {hp : px_H} {res : px_H} (hS : oS hp) (h : fn_Course_ready a1 hp = some res) : px_C nm_T nm_P mi_Course_ready [.ref 21, .int a1] hp none res ∧ oS res := by
  unfold fn_Course_ready at h
  refine py_C (M := mm_Course_ready) rfl (Nat.le_of_ble_eq_true rfl) ?_
  show px_Y mm_Course_ready 0 [(0, .ref 21), (1, .int a1)] [] hp _ _
  refine py_its (pc := 0) (pc1 := 1) (lv1 := [(0, .ref 21), (1, .int a1)]) (st1 := [.ref 21]) 1 (fun _ _ _ _ => rfl) ?_
  refine py_g1 1 (pc := 1) (len := 3) (cs := [21]) rfl rfl rfl List.mem_cons_self hS ?_
  refine py_its (pc := 4) (pc1 := 5) (lv1 := [(0, .ref 21), (1, .int a1)]) (st1 := [.int a1, .ref 1]) 1 (fun _ _ _ _ => rfl) ?_
  obtain ⟨q1, hq2, h⟩ := bd_e h
  have hC3 := (fx_Town_hasDrawing hS hq2).1
  refine py_vi (pc := 5) (mi := mi_Town_hasDrawing) (cs := [1]) (N := mm_Town_hasDrawing) rfl rfl rfl rfl List.mem_cons_self hS rfl (Nat.le_of_ble_eq_true rfl) (Nat.le_of_ble_eq_true rfl) rfl rfl hC3 ?_
  show px_Y mm_Course_ready 8 [(0, .ref 21), (1, .int a1)] [.int q1] hp _ _
  cases hb4 : px_cmp .ne q1 0 with
  | true =>
    have h := cd_t hb4 h
    refine py_if (pc := 8) (len := 3) true rfl hb4 ?_
    refine py_its (pc := 12) (pc1 := 13) (lv1 := [(0, .ref 21), (1, .int a1)]) (st1 := [.ref 21]) 1 (fun _ _ _ _ => rfl) ?_
    refine py_g1 1 (pc := 13) (len := 3) (cs := [21]) rfl rfl rfl List.mem_cons_self hS ?_
    refine py_g1 9 (pc := 16) (len := 3) (cs := [1]) rfl rfl rfl List.mem_cons_self hS ?_
    refine py_its (pc := 19) (pc1 := 20) (lv1 := [(0, .ref 21), (1, .int a1)]) (st1 := [.int a1, .ref 9]) 1 (fun _ _ _ _ => rfl) ?_
    obtain ⟨hi5, h⟩ := cd_n h
    refine py_ai (pc := 20) (len := 1) (cs := [9]) (t := 19) (n := 6) rfl rfl rfl hi5 List.mem_cons_self hS ?_
    refine py_its (pc := 21) (pc1 := 24) (lv1 := [(2, .int (aI hp 9 a1.toNatClampNeg)), (0, .ref 21), (1, .int a1)]) (st1 := [.int a1, .ref 21]) 3 (fun _ _ _ _ => rfl) ?_
    have h := sb_e h
    refine py_pI (pc := 24) (len := 3) (cs := [21]) rfl rfl rfl List.mem_cons_self hS rfl rfl rfl rfl ?_
    have hS7 : oS (wF hp 21 4 (.int a1)) := oS_wI (cs := [21]) (ci := 1) rfl List.mem_cons_self hS
    generalize (wF hp 21 4 (.int a1)) = h6 at h hS7 ⊢
    refine py_its (pc := 27) (pc1 := 29) (lv1 := [(2, .int (aI hp 9 a1.toNatClampNeg)), (0, .ref 21), (1, .int a1)]) (st1 := [.ref 21, .ref 21]) 2 (fun _ _ _ _ => rfl) ?_
    refine py_g1 1 (pc := 29) (len := 3) (cs := [21]) rfl rfl rfl List.mem_cons_self hS7 ?_
    refine py_g1 10 (pc := 32) (len := 3) (cs := [1]) rfl rfl rfl List.mem_cons_self hS7 ?_
    refine py_its (pc := 35) (pc1 := 36) (lv1 := [(2, .int (aI hp 9 a1.toNatClampNeg)), (0, .ref 21), (1, .int a1)]) (st1 := [.int a1, .ref 10, .ref 21]) 1 (fun _ _ _ _ => rfl) ?_
    obtain ⟨hi8, h⟩ := cd_n h
    refine py_ai (pc := 36) (len := 1) (cs := [10]) (t := 20) (n := 6) rfl rfl rfl hi8 List.mem_cons_self hS7 ?_
    have h := sb_e h
    refine py_pI (pc := 37) (len := 3) (cs := [21]) rfl rfl rfl List.mem_cons_self hS7 rfl rfl rfl rfl ?_
    have hS10 : oS (wF h6 21 5 (.int (aI h6 10 a1.toNatClampNeg))) := oS_wI (cs := [21]) (ci := 1) rfl List.mem_cons_self hS7
    generalize (wF h6 21 5 (.int (aI h6 10 a1.toNatClampNeg))) = h9 at h hS10 ⊢
    refine py_its (pc := 40) (pc1 := 42) (lv1 := [(2, .int (aI hp 9 a1.toNatClampNeg)), (0, .ref 21), (1, .int a1)]) (st1 := [.ref 21, .ref 21]) 2 (fun _ _ _ _ => rfl) ?_
    refine py_g1 1 (pc := 42) (len := 3) (cs := [21]) rfl rfl rfl List.mem_cons_self hS10 ?_
    refine py_g1 11 (pc := 45) (len := 3) (cs := [1]) rfl rfl rfl List.mem_cons_self hS10 ?_
    refine py_its (pc := 48) (pc1 := 49) (lv1 := [(2, .int (aI hp 9 a1.toNatClampNeg)), (0, .ref 21), (1, .int a1)]) (st1 := [.int a1, .ref 11, .ref 21]) 1 (fun _ _ _ _ => rfl) ?_
    obtain ⟨hi11, h⟩ := cd_n h
    refine py_ai (pc := 49) (len := 1) (cs := [11]) (t := 21) (n := 6) rfl rfl rfl hi11 List.mem_cons_self hS10 ?_
    have h := sb_e h
    refine py_pI (pc := 50) (len := 3) (cs := [21]) rfl rfl rfl List.mem_cons_self hS10 rfl rfl rfl rfl ?_
    have hS13 : oS (wF h9 21 6 (.int (aI h9 11 a1.toNatClampNeg))) := oS_wI (cs := [21]) (ci := 1) rfl List.mem_cons_self hS10
    generalize (wF h9 21 6 (.int (aI h9 11 a1.toNatClampNeg))) = h12 at h hS13 ⊢
    refine py_its (pc := 53) (pc1 := 55) (lv1 := [(2, .int (aI hp 9 a1.toNatClampNeg)), (0, .ref 21), (1, .int a1)]) (st1 := [.ref 21, .ref 21]) 2 (fun _ _ _ _ => rfl) ?_
    refine py_g1 1 (pc := 55) (len := 3) (cs := [21]) rfl rfl rfl List.mem_cons_self hS13 ?_
    refine py_its (pc := 58) (pc1 := 59) (lv1 := [(2, .int (aI hp 9 a1.toNatClampNeg)), (0, .ref 21), (1, .int a1)]) (st1 := [.int (aI hp 9 a1.toNatClampNeg), .ref 1, .ref 21]) 1 (fun _ _ _ _ => rfl) ?_
    obtain ⟨q14, hq15, h⟩ := bd_e h
    have hC16 := (fx_Town_deadOn hS13 hq15).1
    refine py_vi (pc := 59) (mi := mi_Town_deadOn) (cs := [1]) (N := mm_Town_deadOn) rfl rfl rfl rfl List.mem_cons_self hS13 rfl (Nat.le_of_ble_eq_true rfl) (Nat.le_of_ble_eq_true rfl) rfl rfl hC16 ?_
    show px_Y mm_Course_ready 62 [(2, .int (aI hp 9 a1.toNatClampNeg)), (0, .ref 21), (1, .int a1)] [.int q14, .ref 21] h12 _ _
    have h := sb_e h
    refine py_pI (pc := 62) (len := 3) (cs := [21]) rfl rfl rfl List.mem_cons_self hS13 rfl rfl rfl rfl ?_
    have hS18 : oS (wF h12 21 7 (.int q14)) := oS_wI (cs := [21]) (ci := 1) rfl List.mem_cons_self hS13
    generalize (wF h12 21 7 (.int q14)) = h17 at h hS18 ⊢
    refine py_its (pc := 65) (pc1 := 67) (lv1 := [(2, .int (aI hp 9 a1.toNatClampNeg)), (0, .ref 21), (1, .int a1)]) (st1 := [.ref 21, .ref 21]) 2 (fun _ _ _ _ => rfl) ?_
    refine py_g1 1 (pc := 67) (len := 3) (cs := [21]) rfl rfl rfl List.mem_cons_self hS18 ?_
    refine py_its (pc := 70) (pc1 := 71) (lv1 := [(2, .int (aI hp 9 a1.toNatClampNeg)), (0, .ref 21), (1, .int a1)]) (st1 := [.int (aI hp 9 a1.toNatClampNeg), .ref 1, .ref 21]) 1 (fun _ _ _ _ => rfl) ?_
    obtain ⟨q19, hq20, h⟩ := bd_e h
    have hC21 := (fx_Town_indebtedOn hS18 hq20).1
    refine py_vi (pc := 71) (mi := mi_Town_indebtedOn) (cs := [1]) (N := mm_Town_indebtedOn) rfl rfl rfl rfl List.mem_cons_self hS18 rfl (Nat.le_of_ble_eq_true rfl) (Nat.le_of_ble_eq_true rfl) rfl rfl hC21 ?_
    show px_Y mm_Course_ready 74 [(2, .int (aI hp 9 a1.toNatClampNeg)), (0, .ref 21), (1, .int a1)] [.int q19, .ref 21] h17 _ _
    have h := sb_e h
    refine py_pI (pc := 74) (len := 3) (cs := [21]) rfl rfl rfl List.mem_cons_self hS18 rfl rfl rfl rfl ?_
    have hS23 : oS (wF h17 21 8 (.int q19)) := oS_wI (cs := [21]) (ci := 1) rfl List.mem_cons_self hS18
    generalize (wF h17 21 8 (.int q19)) = h22 at h hS23 ⊢
    refine py_its (pc := 77) (pc1 := 79) (lv1 := [(2, .int (aI hp 9 a1.toNatClampNeg)), (0, .ref 21), (1, .int a1)]) (st1 := [.ref 21, .ref 21]) 2 (fun _ _ _ _ => rfl) ?_
    refine py_g1 1 (pc := 79) (len := 3) (cs := [21]) rfl rfl rfl List.mem_cons_self hS23 ?_
    refine py_its (pc := 82) (pc1 := 83) (lv1 := [(2, .int (aI hp 9 a1.toNatClampNeg)), (0, .ref 21), (1, .int a1)]) (st1 := [.int (aI hp 9 a1.toNatClampNeg), .ref 1, .ref 21]) 1 (fun _ _ _ _ => rfl) ?_
    obtain ⟨q24, hq25, h⟩ := bd_e h
    have hC26 := (fx_Town_awayOn hS23 hq25).1
    refine py_vi (pc := 83) (mi := mi_Town_awayOn) (cs := [1]) (N := mm_Town_awayOn) rfl rfl rfl rfl List.mem_cons_self hS23 rfl (Nat.le_of_ble_eq_true rfl) (Nat.le_of_ble_eq_true rfl) rfl rfl hC26 ?_
    show px_Y mm_Course_ready 86 [(2, .int (aI hp 9 a1.toNatClampNeg)), (0, .ref 21), (1, .int a1)] [.int q24, .ref 21] h22 _ _
    refine py_its (pc := 86) (pc1 := 87) (lv1 := [(2, .int (aI hp 9 a1.toNatClampNeg)), (0, .ref 21), (1, .int a1)]) (st1 := [.ref 21, .int q24, .ref 21]) 1 (fun _ _ _ _ => rfl) ?_
    refine py_gI (pc := 87) (len := 3) (cs := [21]) rfl rfl rfl List.mem_cons_self hS23 ?_
    refine py_its (pc := 90) (pc1 := 91) (lv1 := [(2, .int (aI hp 9 a1.toNatClampNeg)), (0, .ref 21), (1, .int a1)]) (st1 := [.int (q24 ||| (gI h22 21 3)), .ref 21]) 1 (fun _ _ _ _ => rfl) ?_
    have h := sb_e h
    refine py_pI (pc := 91) (len := 3) (cs := [21]) rfl rfl rfl List.mem_cons_self hS23 rfl rfl rfl rfl ?_
    have hS28 : oS (wF h22 21 9 (.int (q24 ||| (gI h22 21 3)))) := oS_wI (cs := [21]) (ci := 1) rfl List.mem_cons_self hS23
    generalize (wF h22 21 9 (.int (q24 ||| (gI h22 21 3)))) = h27 at h hS28 ⊢
    refine py_its (pc := 94) (pc1 := 96) (lv1 := [(3, .int (Int32.ofInt 0)), (2, .int (aI hp 9 a1.toNatClampNeg)), (0, .ref 21), (1, .int a1)]) (st1 := []) 2 (fun _ _ _ _ => rfl) ?_
    exact fl_Course_ready_L96 fu (Int32.ofInt 0) h27 [(3, .int (Int32.ofInt 0)), (2, .int (aI hp 9 a1.toNatClampNeg)), (0, .ref 21), (1, .int a1)] _ hS28 ⟨rfl, rfl, trivial⟩ h
  | false =>
    have h := cd_f hb4 h
    refine py_if (pc := 8) (len := 3) false rfl hb4 ?_
    have h := Option.some.inj h
    subst h
    exact py_rt (pc := 11) (len := 1) rfl rfl hS
/-! X_readyNow -/
noncomputable def fn_X_readyNow  (hp : px_H) : Option (px_H) :=
  (fn_Course_set 14 (aI hp 7 (Int32.ofInt 0).toNatClampNeg) (aI hp 7 (Int32.ofInt 1).toNatClampNeg) (Int32.ofInt 0) hp).bind fun q1 =>
  (fn_Course_ready (gI q1 19 2) q1).bind fun q5 =>
  some q5
theorem fx_X_readyNow  {hp : px_H} {res : px_H} (hS : oS hp) (h : fn_X_readyNow hp = some res) : px_C nm_T nm_P mi_X_readyNow [.ref 0] hp none res ∧ oS res := by
  unfold fn_X_readyNow at h
  refine py_C (M := mm_X_readyNow) rfl (Nat.le_of_ble_eq_true rfl) ?_
  show px_Y mm_X_readyNow 0 [(0, .ref 0)] [] hp _ _
  refine py_its (pc := 0) (pc1 := 1) (lv1 := [(0, .ref 0)]) (st1 := [.ref 0]) 1 (fun _ _ _ _ => rfl) ?_
  refine py_g1 21 (pc := 1) (len := 3) (cs := [0]) rfl rfl rfl List.mem_cons_self hS ?_
  refine py_its (pc := 4) (pc1 := 5) (lv1 := [(0, .ref 0)]) (st1 := [.ref 0, .ref 21]) 1 (fun _ _ _ _ => rfl) ?_
  refine py_g1 14 (pc := 5) (len := 3) (cs := [0]) rfl rfl rfl List.mem_cons_self hS ?_
  refine py_its (pc := 8) (pc1 := 9) (lv1 := [(0, .ref 0)]) (st1 := [.ref 0, .ref 14, .ref 21]) 1 (fun _ _ _ _ => rfl) ?_
  refine py_g1 1 (pc := 9) (len := 3) (cs := [0]) rfl rfl rfl List.mem_cons_self hS ?_
  refine py_g1 7 (pc := 12) (len := 3) (cs := [1]) rfl rfl rfl List.mem_cons_self hS ?_
  refine py_its (pc := 15) (pc1 := 16) (lv1 := [(0, .ref 0)]) (st1 := [.int (Int32.ofInt 0), .ref 7, .ref 14, .ref 21]) 1 (fun _ _ _ _ => rfl) ?_
  refine py_ai (pc := 16) (len := 1) (cs := [7]) (t := 17) (n := 2) rfl rfl rfl rfl List.mem_cons_self hS ?_
  refine py_its (pc := 17) (pc1 := 18) (lv1 := [(0, .ref 0)]) (st1 := [.ref 0, .int (aI hp 7 (Int32.ofInt 0).toNatClampNeg), .ref 14, .ref 21]) 1 (fun _ _ _ _ => rfl) ?_
  refine py_g1 1 (pc := 18) (len := 3) (cs := [0]) rfl rfl rfl List.mem_cons_self hS ?_
  refine py_g1 7 (pc := 21) (len := 3) (cs := [1]) rfl rfl rfl List.mem_cons_self hS ?_
  refine py_its (pc := 24) (pc1 := 25) (lv1 := [(0, .ref 0)]) (st1 := [.int (Int32.ofInt 1), .ref 7, .int (aI hp 7 (Int32.ofInt 0).toNatClampNeg), .ref 14, .ref 21]) 1 (fun _ _ _ _ => rfl) ?_
  refine py_ai (pc := 25) (len := 1) (cs := [7]) (t := 17) (n := 2) rfl rfl rfl rfl List.mem_cons_self hS ?_
  refine py_its (pc := 26) (pc1 := 27) (lv1 := [(0, .ref 0)]) (st1 := [.int (Int32.ofInt 0), .int (aI hp 7 (Int32.ofInt 1).toNatClampNeg), .int (aI hp 7 (Int32.ofInt 0).toNatClampNeg), .ref 14, .ref 21]) 1 (fun _ _ _ _ => rfl) ?_
  obtain ⟨q1, hq2, h⟩ := bd_e h
  obtain ⟨hC3, hS4⟩ := fx_Course_set (List.mem_of_elem_eq_true rfl) hS hq2
  refine py_vi (pc := 27) (mi := mi_Course_set) (cs := [21]) (N := mm_Course_set) rfl rfl rfl rfl List.mem_cons_self hS rfl (Nat.le_of_ble_eq_true rfl) (Nat.le_of_ble_eq_true rfl) rfl rfl hC3 ?_
  show px_Y mm_X_readyNow 30 [(0, .ref 0)] [] q1 _ _
  refine py_its (pc := 30) (pc1 := 31) (lv1 := [(0, .ref 0)]) (st1 := [.ref 0]) 1 (fun _ _ _ _ => rfl) ?_
  refine py_g1 21 (pc := 31) (len := 3) (cs := [0]) rfl rfl rfl List.mem_cons_self hS4 ?_
  refine py_its (pc := 34) (pc1 := 35) (lv1 := [(0, .ref 0)]) (st1 := [.ref 0, .ref 21]) 1 (fun _ _ _ _ => rfl) ?_
  refine py_g1 19 (pc := 35) (len := 3) (cs := [0]) rfl rfl rfl List.mem_cons_self hS4 ?_
  refine py_gI (pc := 38) (len := 3) (cs := [19]) rfl rfl rfl List.mem_cons_self hS4 ?_
  obtain ⟨q5, hq6, h⟩ := bd_e h
  obtain ⟨hC7, hS8⟩ := fx_Course_ready hS4 hq6
  refine py_vi (pc := 41) (mi := mi_Course_ready) (cs := [21]) (N := mm_Course_ready) rfl rfl rfl rfl List.mem_cons_self hS4 rfl (Nat.le_of_ble_eq_true rfl) (Nat.le_of_ble_eq_true rfl) rfl rfl hC7 ?_
  show px_Y mm_X_readyNow 44 [(0, .ref 0)] [] q5 _ _
  have h := Option.some.inj h
  subst h
  exact py_rt (pc := 44) (len := 1) rfl rfl hS8
/-! Course_kinOf -/
noncomputable def fb_Course_kinOf_L4 (v1 : Int32) (hp : px_H) (rc : Int32 → Int32 → Option (Int32)) (v2 : Int32) (v3 : Int32) : Option (Int32) :=
  bif px_cmp .ge v3 (gI hp 1 0) then
    some v2
  else
    bif px_cmp .eq v1 0 then
      some v2
    else
      bif px_cmp .eq ((v1 >>> (v3 &&& 31)) &&& (Int32.ofInt 1)) 0 then
        rc v2 (v3 + Int32.ofInt 1)
      else
        bif px_inR v3 10 then
        rc (v2 ||| (aI hp 27 v3.toNatClampNeg)) (v3 + Int32.ofInt 1)
        else none
noncomputable def fn_Course_kinOf_L4 (v1 : Int32) (hp : px_H) : Nat → Int32 → Int32 → Option (Int32)
  | 0 => fun _ _ => none
  | n + 1 => fb_Course_kinOf_L4 v1 hp (fn_Course_kinOf_L4 v1 hp n)
theorem fl_Course_kinOf_L4 {v1 : Int32} {hp : px_H}  : ∀ (n : Nat) (v2 : Int32) (v3 : Int32) (lv : List (Nat × Value)) (res : Int32), oS hp → lk lv [(0, .ref 21), (1, .int v1), (2, .int v2), (3, .int v3)] → fn_Course_kinOf_L4 v1 hp n v2 v3 = some res → px_Y mm_Course_kinOf 4 lv [] hp (some (.int res)) hp := by
  intro n
  induction n with
  | zero =>
    intro v2 v3 lv res hS hk h
    cases h
  | succ n ih =>
    intro v2 v3 lv res hS hk h
    have h : fb_Course_kinOf_L4 v1 hp (fn_Course_kinOf_L4 v1 hp n) v2 v3 = some res := h
    unfold fb_Course_kinOf_L4 at h
    refine py_iln (pc := 4) (len := 1) (j := 3) rfl hk rfl ?_
    refine py_aln (pc := 5) (len := 1) (j := 0) rfl hk rfl ?_
    refine py_g1 1 (pc := 6) (len := 3) (cs := [21]) rfl rfl rfl List.mem_cons_self hS ?_
    refine py_gI (pc := 9) (len := 3) (cs := [1]) rfl rfl rfl List.mem_cons_self hS ?_
    cases hb1 : px_cmp .ge v3 (gI hp 1 0) with
    | true =>
      have h := cd_t hb1 h
      refine py_ic (pc := 12) (len := 3) true rfl hb1 ?_
      refine py_iln (pc := 42) (len := 1) (j := 2) rfl hk rfl ?_
      have h := Option.some.inj h
      subst h
      exact py_ir (pc := 43) (len := 1) (ty := .int) rfl rfl rfl hS
    | false =>
      have h := cd_f hb1 h
      refine py_ic (pc := 12) (len := 3) false rfl hb1 ?_
      refine py_iln (pc := 15) (len := 1) (j := 1) rfl hk rfl ?_
      cases hb2 : px_cmp .eq v1 0 with
      | true =>
        have h := cd_t hb2 h
        refine py_if (pc := 16) (len := 3) true rfl hb2 ?_
        refine py_iln (pc := 42) (len := 1) (j := 2) rfl hk rfl ?_
        have h := Option.some.inj h
        subst h
        exact py_ir (pc := 43) (len := 1) (ty := .int) rfl rfl rfl hS
      | false =>
        have h := cd_f hb2 h
        refine py_if (pc := 16) (len := 3) false rfl hb2 ?_
        refine py_iln (pc := 19) (len := 1) (j := 1) rfl hk rfl ?_
        refine py_iln (pc := 20) (len := 1) (j := 3) rfl hk rfl ?_
        refine py_its (pc := 21) (pc1 := 24) (lv1 := lv) (st1 := [.int ((v1 >>> (v3 &&& 31)) &&& (Int32.ofInt 1))]) 3 (fun _ _ _ _ => rfl) ?_
        cases hb3 : px_cmp .eq ((v1 >>> (v3 &&& 31)) &&& (Int32.ofInt 1)) 0 with
        | true =>
          have h := cd_t hb3 h
          refine py_if (pc := 24) (len := 3) true rfl hb3 ?_
          refine py_inc (pc := 36) (len := 3) (j := 3) (n := 1) rfl rfl hk rfl (fun lv4 hk5 => ?_)
          have hk5 : lk lv4 [(3, .int (v3 + Int32.ofInt 1)), (0, .ref 21), (1, .int v1), (2, .int v2)] := hk5
          refine py_its (pc := 39) (pc1 := 4) (lv1 := lv4) (st1 := []) 1 (fun _ _ _ _ => rfl) ?_
          exact ih v2 (v3 + Int32.ofInt 1) lv4 _ hS ⟨lk_find hk5 rfl, lk_find hk5 rfl, lk_find hk5 rfl, lk_find hk5 rfl, trivial⟩ h
        | false =>
          have h := cd_f hb3 h
          refine py_if (pc := 24) (len := 3) false rfl hb3 ?_
          refine py_iln (pc := 27) (len := 1) (j := 2) rfl hk rfl ?_
          refine py_aln (pc := 28) (len := 1) (j := 0) rfl hk rfl ?_
          refine py_g1 27 (pc := 29) (len := 3) (cs := [21]) rfl rfl rfl List.mem_cons_self hS ?_
          refine py_iln (pc := 32) (len := 1) (j := 3) rfl hk rfl ?_
          obtain ⟨hi6, h⟩ := cd_n h
          refine py_ai (pc := 33) (len := 1) (cs := [27]) (t := 4) (n := 10) rfl rfl rfl hi6 List.mem_cons_self hS ?_
          refine py_its (pc := 34) (pc1 := 35) (lv1 := lv) (st1 := [.int (v2 ||| (aI hp 27 v3.toNatClampNeg))]) 1 (fun _ _ _ _ => rfl) ?_
          refine py_sin (pc := 35) (len := 1) (j := 2) rfl rfl hk (fun lv7 hk8 => ?_)
          have hk8 : lk lv7 [(2, .int (v2 ||| (aI hp 27 v3.toNatClampNeg))), (0, .ref 21), (1, .int v1), (3, .int v3)] := hk8
          refine py_inc (pc := 36) (len := 3) (j := 3) (n := 1) rfl rfl hk8 rfl (fun lv9 hk10 => ?_)
          have hk10 : lk lv9 [(3, .int (v3 + Int32.ofInt 1)), (2, .int (v2 ||| (aI hp 27 v3.toNatClampNeg))), (0, .ref 21), (1, .int v1)] := hk10
          refine py_its (pc := 39) (pc1 := 4) (lv1 := lv9) (st1 := []) 1 (fun _ _ _ _ => rfl) ?_
          exact ih (v2 ||| (aI hp 27 v3.toNatClampNeg)) (v3 + Int32.ofInt 1) lv9 _ hS ⟨lk_find hk10 rfl, lk_find hk10 rfl, lk_find hk10 rfl, lk_find hk10 rfl, trivial⟩ h
noncomputable def fn_Course_kinOf (a1 : Int32) (hp : px_H) : Option (Int32) :=
  fn_Course_kinOf_L4 a1 hp fu (Int32.ofInt 0) (Int32.ofInt 0)
theorem fx_Course_kinOf {a1 : Int32} {hp : px_H} {res : Int32} (hS : oS hp) (h : fn_Course_kinOf a1 hp = some res) : px_C nm_T nm_P mi_Course_kinOf [.ref 21, .int a1] hp (some (.int res)) hp ∧ oS hp := by
  unfold fn_Course_kinOf at h
  refine py_C (M := mm_Course_kinOf) rfl (Nat.le_of_ble_eq_true rfl) ?_
  show px_Y mm_Course_kinOf 0 [(0, .ref 21), (1, .int a1)] [] hp _ _
  refine py_its (pc := 0) (pc1 := 4) (lv1 := [(3, .int (Int32.ofInt 0)), (2, .int (Int32.ofInt 0)), (0, .ref 21), (1, .int a1)]) (st1 := []) 4 (fun _ _ _ _ => rfl) ?_
  exact fl_Course_kinOf_L4 fu (Int32.ofInt 0) (Int32.ofInt 0) [(3, .int (Int32.ofInt 0)), (2, .int (Int32.ofInt 0)), (0, .ref 21), (1, .int a1)] _ hS ⟨rfl, rfl, rfl, rfl, trivial⟩ h
/-! Course_satSince -/
noncomputable def fb_Course_satSince_L5 (v1 : Int32) (v2 : Int32) (hp : px_H) (rc : Int32 → Int32 → Option (Int32)) (v3 : Int32) (v4 : Int32) : Option (Int32) :=
  bif px_cmp .ge v4 (gI hp 1 0) then
    some v3
  else
    bif px_cmp .lt (((nm_us v2 ((Int32.ofInt 3) * v4)) &&& (Int8.ofInt 7).toInt32) - (Int32.ofInt 1)) 0 then
      rc v3 (v4 + Int32.ofInt 1)
    else
      bif px_cmp .lt (((nm_us v2 ((Int32.ofInt 3) * v4)) &&& (Int8.ofInt 7).toInt32) - (Int32.ofInt 1)) v1 then
        rc v3 (v4 + Int32.ofInt 1)
      else
        bif px_cmp .ge (((nm_us v2 ((Int32.ofInt 3) * v4)) &&& (Int8.ofInt 7).toInt32) - (Int32.ofInt 1)) (gI hp 21 4) then
          rc v3 (v4 + Int32.ofInt 1)
        else
          rc (v3 ||| ((Int32.ofInt 1) <<< (v4 &&& 31))) (v4 + Int32.ofInt 1)
noncomputable def fn_Course_satSince_L5 (v1 : Int32) (v2 : Int32) (hp : px_H) : Nat → Int32 → Int32 → Option (Int32)
  | 0 => fun _ _ => none
  | n + 1 => fb_Course_satSince_L5 v1 v2 hp (fn_Course_satSince_L5 v1 v2 hp n)
theorem fl_Course_satSince_L5 {v1 : Int32} {v2 : Int32} {hp : px_H}  : ∀ (n : Nat) (v3 : Int32) (v4 : Int32) (lv : List (Nat × Value)) (res : Int32), oS hp → lk lv [(0, .ref 21), (1, .int v1), (2, .int v2), (3, .int v3), (4, .int v4)] → fn_Course_satSince_L5 v1 v2 hp n v3 v4 = some res → px_Y mm_Course_satSince 5 lv [] hp (some (.int res)) hp := by
  intro n
  induction n with
  | zero =>
    intro v3 v4 lv res hS hk h
    cases h
  | succ n ih =>
    intro v3 v4 lv res hS hk h
    have h : fb_Course_satSince_L5 v1 v2 hp (fn_Course_satSince_L5 v1 v2 hp n) v3 v4 = some res := h
    unfold fb_Course_satSince_L5 at h
    refine py_il (pc := 5) (len := 2) (j := 4) rfl hk rfl ?_
    refine py_aln (pc := 7) (len := 1) (j := 0) rfl hk rfl ?_
    refine py_g1 1 (pc := 8) (len := 3) (cs := [21]) rfl rfl rfl List.mem_cons_self hS ?_
    refine py_gI (pc := 11) (len := 3) (cs := [1]) rfl rfl rfl List.mem_cons_self hS ?_
    cases hb1 : px_cmp .ge v4 (gI hp 1 0) with
    | true =>
      have h := cd_t hb1 h
      refine py_ic (pc := 14) (len := 3) true rfl hb1 ?_
      refine py_iln (pc := 63) (len := 1) (j := 3) rfl hk rfl ?_
      have h := Option.some.inj h
      subst h
      exact py_ir (pc := 64) (len := 1) (ty := .int) rfl rfl rfl hS
    | false =>
      have h := cd_f hb1 h
      refine py_ic (pc := 14) (len := 3) false rfl hb1 ?_
      refine py_iln (pc := 17) (len := 1) (j := 2) rfl hk rfl ?_
      refine py_its (pc := 18) (pc1 := 19) (lv1 := lv) (st1 := [.int (Int32.ofInt 3), .int v2]) 1 (fun _ _ _ _ => rfl) ?_
      refine py_il (pc := 19) (len := 2) (j := 4) rfl hk rfl ?_
      refine py_its (pc := 21) (pc1 := 28) (lv1 := lv) (st1 := [.int (((nm_us v2 ((Int32.ofInt 3) * v4)) &&& (Int8.ofInt 7).toInt32) - (Int32.ofInt 1))]) 6 (fun _ _ _ _ => rfl) ?_
      refine py_sti (pc := 28) (len := 2) (j := 5) rfl rfl hk (fun lv2 hk3 => ?_)
      have hk3 : lk lv2 [(5, .int (((nm_us v2 ((Int32.ofInt 3) * v4)) &&& (Int8.ofInt 7).toInt32) - (Int32.ofInt 1))), (0, .ref 21), (1, .int v1), (2, .int v2), (3, .int v3), (4, .int v4)] := hk3
      refine py_il (pc := 30) (len := 2) (j := 5) rfl hk3 rfl ?_
      cases hb4 : px_cmp .lt (((nm_us v2 ((Int32.ofInt 3) * v4)) &&& (Int8.ofInt 7).toInt32) - (Int32.ofInt 1)) 0 with
      | true =>
        have h := cd_t hb4 h
        refine py_if (pc := 32) (len := 3) true rfl hb4 ?_
        refine py_inc (pc := 57) (len := 3) (j := 4) (n := 1) rfl rfl hk3 rfl (fun lv5 hk6 => ?_)
        have hk6 : lk lv5 [(4, .int (v4 + Int32.ofInt 1)), (5, .int (((nm_us v2 ((Int32.ofInt 3) * v4)) &&& (Int8.ofInt 7).toInt32) - (Int32.ofInt 1))), (0, .ref 21), (1, .int v1), (2, .int v2), (3, .int v3)] := hk6
        refine py_its (pc := 60) (pc1 := 5) (lv1 := lv5) (st1 := []) 1 (fun _ _ _ _ => rfl) ?_
        exact ih v3 (v4 + Int32.ofInt 1) lv5 _ hS ⟨lk_find hk6 rfl, lk_find hk6 rfl, lk_find hk6 rfl, lk_find hk6 rfl, lk_find hk6 rfl, trivial⟩ h
      | false =>
        have h := cd_f hb4 h
        refine py_if (pc := 32) (len := 3) false rfl hb4 ?_
        refine py_il (pc := 35) (len := 2) (j := 5) rfl hk3 rfl ?_
        refine py_iln (pc := 37) (len := 1) (j := 1) rfl hk3 rfl ?_
        cases hb7 : px_cmp .lt (((nm_us v2 ((Int32.ofInt 3) * v4)) &&& (Int8.ofInt 7).toInt32) - (Int32.ofInt 1)) v1 with
        | true =>
          have h := cd_t hb7 h
          refine py_ic (pc := 38) (len := 3) true rfl hb7 ?_
          refine py_inc (pc := 57) (len := 3) (j := 4) (n := 1) rfl rfl hk3 rfl (fun lv8 hk9 => ?_)
          have hk9 : lk lv8 [(4, .int (v4 + Int32.ofInt 1)), (5, .int (((nm_us v2 ((Int32.ofInt 3) * v4)) &&& (Int8.ofInt 7).toInt32) - (Int32.ofInt 1))), (0, .ref 21), (1, .int v1), (2, .int v2), (3, .int v3)] := hk9
          refine py_its (pc := 60) (pc1 := 5) (lv1 := lv8) (st1 := []) 1 (fun _ _ _ _ => rfl) ?_
          exact ih v3 (v4 + Int32.ofInt 1) lv8 _ hS ⟨lk_find hk9 rfl, lk_find hk9 rfl, lk_find hk9 rfl, lk_find hk9 rfl, lk_find hk9 rfl, trivial⟩ h
        | false =>
          have h := cd_f hb7 h
          refine py_ic (pc := 38) (len := 3) false rfl hb7 ?_
          refine py_il (pc := 41) (len := 2) (j := 5) rfl hk3 rfl ?_
          refine py_aln (pc := 43) (len := 1) (j := 0) rfl hk3 rfl ?_
          refine py_gI (pc := 44) (len := 3) (cs := [21]) rfl rfl rfl List.mem_cons_self hS ?_
          cases hb10 : px_cmp .ge (((nm_us v2 ((Int32.ofInt 3) * v4)) &&& (Int8.ofInt 7).toInt32) - (Int32.ofInt 1)) (gI hp 21 4) with
          | true =>
            have h := cd_t hb10 h
            refine py_ic (pc := 47) (len := 3) true rfl hb10 ?_
            refine py_inc (pc := 57) (len := 3) (j := 4) (n := 1) rfl rfl hk3 rfl (fun lv11 hk12 => ?_)
            have hk12 : lk lv11 [(4, .int (v4 + Int32.ofInt 1)), (5, .int (((nm_us v2 ((Int32.ofInt 3) * v4)) &&& (Int8.ofInt 7).toInt32) - (Int32.ofInt 1))), (0, .ref 21), (1, .int v1), (2, .int v2), (3, .int v3)] := hk12
            refine py_its (pc := 60) (pc1 := 5) (lv1 := lv11) (st1 := []) 1 (fun _ _ _ _ => rfl) ?_
            exact ih v3 (v4 + Int32.ofInt 1) lv11 _ hS ⟨lk_find hk12 rfl, lk_find hk12 rfl, lk_find hk12 rfl, lk_find hk12 rfl, lk_find hk12 rfl, trivial⟩ h
          | false =>
            have h := cd_f hb10 h
            refine py_ic (pc := 47) (len := 3) false rfl hb10 ?_
            refine py_iln (pc := 50) (len := 1) (j := 3) rfl hk3 rfl ?_
            refine py_its (pc := 51) (pc1 := 52) (lv1 := lv2) (st1 := [.int (Int32.ofInt 1), .int v3]) 1 (fun _ _ _ _ => rfl) ?_
            refine py_il (pc := 52) (len := 2) (j := 4) rfl hk3 rfl ?_
            refine py_its (pc := 54) (pc1 := 56) (lv1 := lv2) (st1 := [.int (v3 ||| ((Int32.ofInt 1) <<< (v4 &&& 31)))]) 2 (fun _ _ _ _ => rfl) ?_
            refine py_sin (pc := 56) (len := 1) (j := 3) rfl rfl hk3 (fun lv13 hk14 => ?_)
            have hk14 : lk lv13 [(3, .int (v3 ||| ((Int32.ofInt 1) <<< (v4 &&& 31)))), (5, .int (((nm_us v2 ((Int32.ofInt 3) * v4)) &&& (Int8.ofInt 7).toInt32) - (Int32.ofInt 1))), (0, .ref 21), (1, .int v1), (2, .int v2), (4, .int v4)] := hk14
            refine py_inc (pc := 57) (len := 3) (j := 4) (n := 1) rfl rfl hk14 rfl (fun lv15 hk16 => ?_)
            have hk16 : lk lv15 [(4, .int (v4 + Int32.ofInt 1)), (3, .int (v3 ||| ((Int32.ofInt 1) <<< (v4 &&& 31)))), (5, .int (((nm_us v2 ((Int32.ofInt 3) * v4)) &&& (Int8.ofInt 7).toInt32) - (Int32.ofInt 1))), (0, .ref 21), (1, .int v1), (2, .int v2)] := hk16
            refine py_its (pc := 60) (pc1 := 5) (lv1 := lv15) (st1 := []) 1 (fun _ _ _ _ => rfl) ?_
            exact ih (v3 ||| ((Int32.ofInt 1) <<< (v4 &&& 31))) (v4 + Int32.ofInt 1) lv15 _ hS ⟨lk_find hk16 rfl, lk_find hk16 rfl, lk_find hk16 rfl, lk_find hk16 rfl, lk_find hk16 rfl, trivial⟩ h
noncomputable def fn_Course_satSince (a1 : Int32) (a2 : Int32) (hp : px_H) : Option (Int32) :=
  fn_Course_satSince_L5 a1 a2 hp fu (Int32.ofInt 0) (Int32.ofInt 0)
theorem fx_Course_satSince {a1 : Int32} {a2 : Int32} {hp : px_H} {res : Int32} (hS : oS hp) (h : fn_Course_satSince a1 a2 hp = some res) : px_C nm_T nm_P mi_Course_satSince [.ref 21, .int a1, .int a2] hp (some (.int res)) hp ∧ oS hp := by
  unfold fn_Course_satSince at h
  refine py_C (M := mm_Course_satSince) rfl (Nat.le_of_ble_eq_true rfl) ?_
  show px_Y mm_Course_satSince 0 [(0, .ref 21), (1, .int a1), (2, .int a2)] [] hp _ _
  refine py_its (pc := 0) (pc1 := 5) (lv1 := [(4, .int (Int32.ofInt 0)), (3, .int (Int32.ofInt 0)), (0, .ref 21), (1, .int a1), (2, .int a2)]) (st1 := []) 4 (fun _ _ _ _ => rfl) ?_
  exact fl_Course_satSince_L5 fu (Int32.ofInt 0) (Int32.ofInt 0) [(4, .int (Int32.ofInt 0)), (3, .int (Int32.ofInt 0)), (0, .ref 21), (1, .int a1), (2, .int a2)] _ hS ⟨rfl, rfl, rfl, rfl, rfl, trivial⟩ h
/-! Course_barredBy -/
noncomputable def fn_Course_barredBy (a1 : Int32) (a2 : Int32) (a3 : Int32) (hp : px_H) : Option (Int32) :=
  bif px_inR a1 7 then
  bif px_cmp .eq (aI hp (gR hp (gR hp 21 1) 0) a1.toNatClampNeg) (Int32.ofInt 100) then
    some (gI hp 21 8)
  else
    bif px_cmp .eq (aI hp (gR hp (gR hp 21 1) 0) a1.toNatClampNeg) (Int32.ofInt 107) then
      (fn_Course_kinOf a2 hp).bind fun q6 =>
      some q6
    else
      bif px_cmp .eq (aI hp (gR hp (gR hp 21 1) 0) a1.toNatClampNeg) (Int32.ofInt 115) then
        bif px_inR a1 7 then
        (fn_Course_satSince ((gI hp 21 4) - (aI hp (gR hp (gR hp 21 1) 1) a1.toNatClampNeg)) a3 hp).bind fun q13 =>
        some q13
        else none
      else
        some (gI hp 21 9)
  else none
theorem fx_Course_barredBy {a1 : Int32} {a2 : Int32} {a3 : Int32} {hp : px_H} {res : Int32} (hS : oS hp) (h : fn_Course_barredBy a1 a2 a3 hp = some res) : px_C nm_T nm_P mi_Course_barredBy [.ref 21, .int a1, .int a2, .int a3] hp (some (.int res)) hp ∧ oS hp := by
  unfold fn_Course_barredBy at h
  refine py_C (M := mm_Course_barredBy) rfl (Nat.le_of_ble_eq_true rfl) ?_
  show px_Y mm_Course_barredBy 0 [(0, .ref 21), (1, .int a1), (2, .int a2), (3, .int a3)] [] hp _ _
  refine py_its (pc := 0) (pc1 := 1) (lv1 := [(0, .ref 21), (1, .int a1), (2, .int a2), (3, .int a3)]) (st1 := [.ref 21]) 1 (fun _ _ _ _ => rfl) ?_
  refine py_gR [14, 22, 54, 58, 62] (pc := 1) (len := 3) (cs := [21]) rfl rfl rfl List.mem_cons_self hS (fun hm1 => ?_)
  refine py_gR [15, 23, 55, 59, 63] (pc := 4) (len := 3) (cs := [14, 22, 54, 58, 62]) rfl rfl rfl hm1 hS (fun hm2 => ?_)
  refine py_its (pc := 7) (pc1 := 8) (lv1 := [(0, .ref 21), (1, .int a1), (2, .int a2), (3, .int a3)]) (st1 := [.int a1, .ref (gR hp (gR hp 21 1) 0)]) 1 (fun _ _ _ _ => rfl) ?_
  obtain ⟨hi3, h⟩ := cd_n h
  refine py_ai (pc := 8) (len := 1) (cs := [15, 23, 55, 59, 63]) (t := 0) (n := 7) rfl rfl rfl hi3 hm2 hS ?_
  cases hb4 : px_cmp .eq (aI hp (gR hp (gR hp 21 1) 0) a1.toNatClampNeg) (Int32.ofInt 100) with
  | true =>
    have h := cd_t hb4 h
    refine py_lsw (pc := 9) (len := 35) (off := 61) rfl (by rw [sx_eq hb4]; rfl) rfl ?_
    refine py_its (pc := 70) (pc1 := 71) (lv1 := [(0, .ref 21), (1, .int a1), (2, .int a2), (3, .int a3)]) (st1 := [.ref 21]) 1 (fun _ _ _ _ => rfl) ?_
    refine py_gI (pc := 71) (len := 3) (cs := [21]) rfl rfl rfl List.mem_cons_self hS ?_
    have h := Option.some.inj h
    subst h
    exact py_ir (pc := 74) (len := 1) (ty := .int) rfl rfl rfl hS
  | false =>
    have h := cd_f hb4 h
    cases hb5 : px_cmp .eq (aI hp (gR hp (gR hp 21 1) 0) a1.toNatClampNeg) (Int32.ofInt 107) with
    | true =>
      have h := cd_t hb5 h
      refine py_lsw (pc := 9) (len := 35) (off := 35) rfl (by rw [sx_eq hb5]; rfl) rfl ?_
      refine py_its (pc := 44) (pc1 := 46) (lv1 := [(0, .ref 21), (1, .int a1), (2, .int a2), (3, .int a3)]) (st1 := [.int a2, .ref 21]) 2 (fun _ _ _ _ => rfl) ?_
      obtain ⟨q6, hq7, h⟩ := bd_e h
      have hC8 := (fx_Course_kinOf hS hq7).1
      refine py_vi (pc := 46) (mi := mi_Course_kinOf) (cs := [21]) (N := mm_Course_kinOf) rfl rfl rfl rfl List.mem_cons_self hS rfl (Nat.le_of_ble_eq_true rfl) (Nat.le_of_ble_eq_true rfl) rfl rfl hC8 ?_
      show px_Y mm_Course_barredBy 49 [(0, .ref 21), (1, .int a1), (2, .int a2), (3, .int a3)] [.int q6] hp _ _
      have h := Option.some.inj h
      subst h
      exact py_ir (pc := 49) (len := 1) (ty := .int) rfl rfl rfl hS
    | false =>
      have h := cd_f hb5 h
      cases hb9 : px_cmp .eq (aI hp (gR hp (gR hp 21 1) 0) a1.toNatClampNeg) (Int32.ofInt 115) with
      | true =>
        have h := cd_t hb9 h
        refine py_lsw (pc := 9) (len := 35) (off := 41) rfl (by rw [sx_eq hb9]; rfl) rfl ?_
        refine py_its (pc := 50) (pc1 := 52) (lv1 := [(0, .ref 21), (1, .int a1), (2, .int a2), (3, .int a3)]) (st1 := [.ref 21, .ref 21]) 2 (fun _ _ _ _ => rfl) ?_
        refine py_gI (pc := 52) (len := 3) (cs := [21]) rfl rfl rfl List.mem_cons_self hS ?_
        refine py_its (pc := 55) (pc1 := 56) (lv1 := [(0, .ref 21), (1, .int a1), (2, .int a2), (3, .int a3)]) (st1 := [.ref 21, .int (gI hp 21 4), .ref 21]) 1 (fun _ _ _ _ => rfl) ?_
        refine py_gR [14, 22, 54, 58, 62] (pc := 56) (len := 3) (cs := [21]) rfl rfl rfl List.mem_cons_self hS (fun hm10 => ?_)
        refine py_gR [16, 24, 56, 60, 64] (pc := 59) (len := 3) (cs := [14, 22, 54, 58, 62]) rfl rfl rfl hm10 hS (fun hm11 => ?_)
        refine py_its (pc := 62) (pc1 := 63) (lv1 := [(0, .ref 21), (1, .int a1), (2, .int a2), (3, .int a3)]) (st1 := [.int a1, .ref (gR hp (gR hp 21 1) 1), .int (gI hp 21 4), .ref 21]) 1 (fun _ _ _ _ => rfl) ?_
        obtain ⟨hi12, h⟩ := cd_n h
        refine py_ai (pc := 63) (len := 1) (cs := [16, 24, 56, 60, 64]) (t := 1) (n := 7) rfl rfl rfl hi12 hm11 hS ?_
        refine py_its (pc := 64) (pc1 := 66) (lv1 := [(0, .ref 21), (1, .int a1), (2, .int a2), (3, .int a3)]) (st1 := [.int a3, .int ((gI hp 21 4) - (aI hp (gR hp (gR hp 21 1) 1) a1.toNatClampNeg)), .ref 21]) 2 (fun _ _ _ _ => rfl) ?_
        obtain ⟨q13, hq14, h⟩ := bd_e h
        have hC15 := (fx_Course_satSince hS hq14).1
        refine py_vi (pc := 66) (mi := mi_Course_satSince) (cs := [21]) (N := mm_Course_satSince) rfl rfl rfl rfl List.mem_cons_self hS rfl (Nat.le_of_ble_eq_true rfl) (Nat.le_of_ble_eq_true rfl) rfl rfl hC15 ?_
        show px_Y mm_Course_barredBy 69 [(0, .ref 21), (1, .int a1), (2, .int a2), (3, .int a3)] [.int q13] hp _ _
        have h := Option.some.inj h
        subst h
        exact py_ir (pc := 69) (len := 1) (ty := .int) rfl rfl rfl hS
      | false =>
        have h := cd_f hb9 h
        refine py_lsw (pc := 9) (len := 35) (off := 66) rfl (sx_lsd (List.forall_mem_cons.mpr ⟨hb4, List.forall_mem_cons.mpr ⟨hb5, List.forall_mem_cons.mpr ⟨hb9, fun _ h => absurd h List.not_mem_nil⟩⟩⟩)) rfl ?_
        refine py_its (pc := 75) (pc1 := 76) (lv1 := [(0, .ref 21), (1, .int a1), (2, .int a2), (3, .int a3)]) (st1 := [.ref 21]) 1 (fun _ _ _ _ => rfl) ?_
        refine py_gI (pc := 76) (len := 3) (cs := [21]) rfl rfl rfl List.mem_cons_self hS ?_
        have h := Option.some.inj h
        subst h
        exact py_ir (pc := 79) (len := 1) (ty := .int) rfl rfl rfl hS
/-! Course_lineAgainst -/
noncomputable def fb_Course_lineAgainst_L2 (v1 : Int32) (v2 : Int32) (hp : px_H) (rc : Int32 → Option (Int32)) (v3 : Int32) : Option (Int32) :=
  bif px_cmp .ge v3 (gI hp (gR hp 21 1) 3) then
    some (Int32.ofInt (-1))
  else
    (fn_Course_barredBy v3 (Int32.ofInt 0) v1 hp).bind fun q3 =>
    bif px_cmp .eq ((q3 >>> (v2 &&& 31)) &&& (Int32.ofInt 1)) 0 then
      rc (v3 + Int32.ofInt 1)
    else
      some v3
noncomputable def fn_Course_lineAgainst_L2 (v1 : Int32) (v2 : Int32) (hp : px_H) : Nat → Int32 → Option (Int32)
  | 0 => fun _ => none
  | n + 1 => fb_Course_lineAgainst_L2 v1 v2 hp (fn_Course_lineAgainst_L2 v1 v2 hp n)
theorem fl_Course_lineAgainst_L2 {v1 : Int32} {v2 : Int32} {hp : px_H}  : ∀ (n : Nat) (v3 : Int32) (lv : List (Nat × Value)) (res : Int32), oS hp → lk lv [(0, .ref 21), (1, .int v1), (2, .int v2), (3, .int v3)] → fn_Course_lineAgainst_L2 v1 v2 hp n v3 = some res → px_Y mm_Course_lineAgainst 2 lv [] hp (some (.int res)) hp := by
  intro n
  induction n with
  | zero =>
    intro v3 lv res hS hk h
    cases h
  | succ n ih =>
    intro v3 lv res hS hk h
    have h : fb_Course_lineAgainst_L2 v1 v2 hp (fn_Course_lineAgainst_L2 v1 v2 hp n) v3 = some res := h
    unfold fb_Course_lineAgainst_L2 at h
    refine py_iln (pc := 2) (len := 1) (j := 3) rfl hk rfl ?_
    refine py_aln (pc := 3) (len := 1) (j := 0) rfl hk rfl ?_
    refine py_gR [14, 22, 54, 58, 62] (pc := 4) (len := 3) (cs := [21]) rfl rfl rfl List.mem_cons_self hS (fun hm1 => ?_)
    refine py_gI (pc := 7) (len := 3) (cs := [14, 22, 54, 58, 62]) rfl rfl rfl hm1 hS ?_
    cases hb2 : px_cmp .ge v3 (gI hp (gR hp 21 1) 3) with
    | true =>
      have h := cd_t hb2 h
      refine py_ic (pc := 10) (len := 3) true rfl hb2 ?_
      refine py_its (pc := 35) (pc1 := 36) (lv1 := lv) (st1 := [.int (Int32.ofInt (-1))]) 1 (fun _ _ _ _ => rfl) ?_
      have h := Option.some.inj h
      subst h
      exact py_ir (pc := 36) (len := 1) (ty := .int) rfl rfl rfl hS
    | false =>
      have h := cd_f hb2 h
      refine py_ic (pc := 10) (len := 3) false rfl hb2 ?_
      refine py_aln (pc := 13) (len := 1) (j := 0) rfl hk rfl ?_
      refine py_iln (pc := 14) (len := 1) (j := 3) rfl hk rfl ?_
      refine py_its (pc := 15) (pc1 := 16) (lv1 := lv) (st1 := [.int (Int32.ofInt 0), .int v3, .ref 21]) 1 (fun _ _ _ _ => rfl) ?_
      refine py_iln (pc := 16) (len := 1) (j := 1) rfl hk rfl ?_
      obtain ⟨q3, hq4, h⟩ := bd_e h
      have hC5 := (fx_Course_barredBy hS hq4).1
      refine py_vi (pc := 17) (mi := mi_Course_barredBy) (cs := [21]) (N := mm_Course_barredBy) rfl rfl rfl rfl List.mem_cons_self hS rfl (Nat.le_of_ble_eq_true rfl) (Nat.le_of_ble_eq_true rfl) rfl rfl hC5 ?_
      show px_Y mm_Course_lineAgainst 20 lv [.int q3] hp _ _
      refine py_iln (pc := 20) (len := 1) (j := 2) rfl hk rfl ?_
      refine py_its (pc := 21) (pc1 := 24) (lv1 := lv) (st1 := [.int ((q3 >>> (v2 &&& 31)) &&& (Int32.ofInt 1))]) 3 (fun _ _ _ _ => rfl) ?_
      cases hb6 : px_cmp .eq ((q3 >>> (v2 &&& 31)) &&& (Int32.ofInt 1)) 0 with
      | true =>
        have h := cd_t hb6 h
        refine py_if (pc := 24) (len := 3) true rfl hb6 ?_
        refine py_inc (pc := 29) (len := 3) (j := 3) (n := 1) rfl rfl hk rfl (fun lv7 hk8 => ?_)
        have hk8 : lk lv7 [(3, .int (v3 + Int32.ofInt 1)), (0, .ref 21), (1, .int v1), (2, .int v2)] := hk8
        refine py_its (pc := 32) (pc1 := 2) (lv1 := lv7) (st1 := []) 1 (fun _ _ _ _ => rfl) ?_
        exact ih (v3 + Int32.ofInt 1) lv7 _ hS ⟨lk_find hk8 rfl, lk_find hk8 rfl, lk_find hk8 rfl, lk_find hk8 rfl, trivial⟩ h
      | false =>
        have h := cd_f hb6 h
        refine py_if (pc := 24) (len := 3) false rfl hb6 ?_
        refine py_iln (pc := 27) (len := 1) (j := 3) rfl hk rfl ?_
        have h := Option.some.inj h
        subst h
        exact py_ir (pc := 28) (len := 1) (ty := .int) rfl rfl rfl hS
noncomputable def fn_Course_lineAgainst (a1 : Int32) (a2 : Int32) (hp : px_H) : Option (Int32) :=
  fn_Course_lineAgainst_L2 a1 a2 hp fu (Int32.ofInt 0)
theorem fx_Course_lineAgainst {a1 : Int32} {a2 : Int32} {hp : px_H} {res : Int32} (hS : oS hp) (h : fn_Course_lineAgainst a1 a2 hp = some res) : px_C nm_T nm_P mi_Course_lineAgainst [.ref 21, .int a1, .int a2] hp (some (.int res)) hp ∧ oS hp := by
  unfold fn_Course_lineAgainst at h
  refine py_C (M := mm_Course_lineAgainst) rfl (Nat.le_of_ble_eq_true rfl) ?_
  show px_Y mm_Course_lineAgainst 0 [(0, .ref 21), (1, .int a1), (2, .int a2)] [] hp _ _
  refine py_its (pc := 0) (pc1 := 2) (lv1 := [(3, .int (Int32.ofInt 0)), (0, .ref 21), (1, .int a1), (2, .int a2)]) (st1 := []) 2 (fun _ _ _ _ => rfl) ?_
  exact fl_Course_lineAgainst_L2 fu (Int32.ofInt 0) [(3, .int (Int32.ofInt 0)), (0, .ref 21), (1, .int a1), (2, .int a2)] _ hS ⟨rfl, rfl, rfl, rfl, trivial⟩ h
/-! X_bars -/
noncomputable def fn_X_bars (a1 : Int32) (hp : px_H) : Option (Int32 × px_H) :=
  (fn_Town_hasPerson a1 hp).bind fun q1 =>
  bif px_cmp .eq q1 0 then
    some ((Int32.ofInt (-1)), hp)
  else
    (fn_X_isDrawingLeft hp).bind fun q5 =>
    bif px_cmp .ne q5 0 then
      (fn_X_readyNow hp).bind fun q9 =>
      bif px_cmp .eq (((gI q9 21 7) >>> (a1 &&& 31)) &&& (Int32.ofInt 1)) 0 then
        (fn_Course_lineAgainst (gI q9 19 1) a1 q9).bind fun q14 =>
        bif px_cmp .ge q14 0 then
          some (q14, q9)
        else
          some ((Int8.ofInt (-2)).toInt32, q9)
      else
        some ((Int8.ofInt (-3)).toInt32, q9)
    else
      some ((Int32.ofInt (-1)), hp)
theorem fx_X_bars {a1 : Int32} {hp : px_H} {res : Int32 × px_H} (hS : oS hp) (h : fn_X_bars a1 hp = some res) : px_C nm_T nm_P mi_X_bars [.ref 0, .int a1] hp (some (.int res.1)) res.2 ∧ oS res.2 := by
  unfold fn_X_bars at h
  refine py_C (M := mm_X_bars) rfl (Nat.le_of_ble_eq_true rfl) ?_
  show px_Y mm_X_bars 0 [(0, .ref 0), (1, .int a1)] [] hp _ _
  refine py_its (pc := 0) (pc1 := 1) (lv1 := [(0, .ref 0), (1, .int a1)]) (st1 := [.ref 0]) 1 (fun _ _ _ _ => rfl) ?_
  refine py_g1 1 (pc := 1) (len := 3) (cs := [0]) rfl rfl rfl List.mem_cons_self hS ?_
  refine py_its (pc := 4) (pc1 := 5) (lv1 := [(0, .ref 0), (1, .int a1)]) (st1 := [.int a1, .ref 1]) 1 (fun _ _ _ _ => rfl) ?_
  obtain ⟨q1, hq2, h⟩ := bd_e h
  have hC3 := (fx_Town_hasPerson hS hq2).1
  refine py_vi (pc := 5) (mi := mi_Town_hasPerson) (cs := [1]) (N := mm_Town_hasPerson) rfl rfl rfl rfl List.mem_cons_self hS rfl (Nat.le_of_ble_eq_true rfl) (Nat.le_of_ble_eq_true rfl) rfl rfl hC3 ?_
  show px_Y mm_X_bars 8 [(0, .ref 0), (1, .int a1)] [.int q1] hp _ _
  cases hb4 : px_cmp .eq q1 0 with
  | true =>
    have h := cd_t hb4 h
    refine py_if (pc := 8) (len := 3) true rfl hb4 ?_
    refine py_its (pc := 18) (pc1 := 19) (lv1 := [(0, .ref 0), (1, .int a1)]) (st1 := [.int (Int32.ofInt (-1))]) 1 (fun _ _ _ _ => rfl) ?_
    have h := Option.some.inj h
    subst h
    exact py_ir (pc := 19) (len := 1) (ty := .int) rfl rfl rfl hS
  | false =>
    have h := cd_f hb4 h
    refine py_if (pc := 8) (len := 3) false rfl hb4 ?_
    refine py_its (pc := 11) (pc1 := 12) (lv1 := [(0, .ref 0), (1, .int a1)]) (st1 := [.ref 0]) 1 (fun _ _ _ _ => rfl) ?_
    obtain ⟨q5, hq6, h⟩ := bd_e h
    have hC7 := (fx_X_isDrawingLeft hS hq6).1
    refine py_vi (pc := 12) (mi := mi_X_isDrawingLeft) (cs := [0]) (N := mm_X_isDrawingLeft) rfl rfl rfl rfl List.mem_cons_self hS rfl (Nat.le_of_ble_eq_true rfl) (Nat.le_of_ble_eq_true rfl) rfl rfl hC7 ?_
    show px_Y mm_X_bars 15 [(0, .ref 0), (1, .int a1)] [.int q5] hp _ _
    cases hb8 : px_cmp .ne q5 0 with
    | true =>
      have h := cd_t hb8 h
      refine py_if (pc := 15) (len := 3) true rfl hb8 ?_
      refine py_its (pc := 20) (pc1 := 21) (lv1 := [(0, .ref 0), (1, .int a1)]) (st1 := [.ref 0]) 1 (fun _ _ _ _ => rfl) ?_
      obtain ⟨q9, hq10, h⟩ := bd_e h
      obtain ⟨hC11, hS12⟩ := fx_X_readyNow hS hq10
      refine py_vi (pc := 21) (mi := mi_X_readyNow) (cs := [0]) (N := mm_X_readyNow) rfl rfl rfl rfl List.mem_cons_self hS rfl (Nat.le_of_ble_eq_true rfl) (Nat.le_of_ble_eq_true rfl) rfl rfl hC11 ?_
      show px_Y mm_X_bars 24 [(0, .ref 0), (1, .int a1)] [] q9 _ _
      refine py_its (pc := 24) (pc1 := 25) (lv1 := [(0, .ref 0), (1, .int a1)]) (st1 := [.ref 0]) 1 (fun _ _ _ _ => rfl) ?_
      refine py_g1 21 (pc := 25) (len := 3) (cs := [0]) rfl rfl rfl List.mem_cons_self hS12 ?_
      refine py_gI (pc := 28) (len := 3) (cs := [21]) rfl rfl rfl List.mem_cons_self hS12 ?_
      refine py_its (pc := 31) (pc1 := 35) (lv1 := [(0, .ref 0), (1, .int a1)]) (st1 := [.int (((gI q9 21 7) >>> (a1 &&& 31)) &&& (Int32.ofInt 1))]) 4 (fun _ _ _ _ => rfl) ?_
      cases hb13 : px_cmp .eq (((gI q9 21 7) >>> (a1 &&& 31)) &&& (Int32.ofInt 1)) 0 with
      | true =>
        have h := cd_t hb13 h
        refine py_if (pc := 35) (len := 3) true rfl hb13 ?_
        refine py_its (pc := 41) (pc1 := 42) (lv1 := [(0, .ref 0), (1, .int a1)]) (st1 := [.ref 0]) 1 (fun _ _ _ _ => rfl) ?_
        refine py_g1 21 (pc := 42) (len := 3) (cs := [0]) rfl rfl rfl List.mem_cons_self hS12 ?_
        refine py_its (pc := 45) (pc1 := 46) (lv1 := [(0, .ref 0), (1, .int a1)]) (st1 := [.ref 0, .ref 21]) 1 (fun _ _ _ _ => rfl) ?_
        refine py_g1 19 (pc := 46) (len := 3) (cs := [0]) rfl rfl rfl List.mem_cons_self hS12 ?_
        refine py_gI (pc := 49) (len := 3) (cs := [19]) rfl rfl rfl List.mem_cons_self hS12 ?_
        refine py_its (pc := 52) (pc1 := 53) (lv1 := [(0, .ref 0), (1, .int a1)]) (st1 := [.int a1, .int (gI q9 19 1), .ref 21]) 1 (fun _ _ _ _ => rfl) ?_
        obtain ⟨q14, hq15, h⟩ := bd_e h
        have hC16 := (fx_Course_lineAgainst hS12 hq15).1
        refine py_vi (pc := 53) (mi := mi_Course_lineAgainst) (cs := [21]) (N := mm_Course_lineAgainst) rfl rfl rfl rfl List.mem_cons_self hS12 rfl (Nat.le_of_ble_eq_true rfl) (Nat.le_of_ble_eq_true rfl) rfl rfl hC16 ?_
        show px_Y mm_X_bars 56 [(0, .ref 0), (1, .int a1)] [.int q14] q9 _ _
        refine py_its (pc := 56) (pc1 := 58) (lv1 := [(2, .int q14), (0, .ref 0), (1, .int a1)]) (st1 := [.int q14]) 2 (fun _ _ _ _ => rfl) ?_
        cases hb17 : px_cmp .ge q14 0 with
        | true =>
          have h := cd_t hb17 h
          refine py_if (pc := 58) (len := 3) true rfl hb17 ?_
          refine py_its (pc := 66) (pc1 := 67) (lv1 := [(2, .int q14), (0, .ref 0), (1, .int a1)]) (st1 := [.int q14]) 1 (fun _ _ _ _ => rfl) ?_
          have h := Option.some.inj h
          subst h
          exact py_ir (pc := 67) (len := 1) (ty := .int) rfl rfl rfl hS12
        | false =>
          have h := cd_f hb17 h
          refine py_if (pc := 58) (len := 3) false rfl hb17 ?_
          refine py_its (pc := 61) (pc1 := 67) (lv1 := [(2, .int q14), (0, .ref 0), (1, .int a1)]) (st1 := [.int (Int8.ofInt (-2)).toInt32]) 2 (fun _ _ _ _ => rfl) ?_
          have h := Option.some.inj h
          subst h
          exact py_ir (pc := 67) (len := 1) (ty := .int) rfl rfl rfl hS12
      | false =>
        have h := cd_f hb13 h
        refine py_if (pc := 35) (len := 3) false rfl hb13 ?_
        refine py_its (pc := 38) (pc1 := 40) (lv1 := [(0, .ref 0), (1, .int a1)]) (st1 := [.int (Int8.ofInt (-3)).toInt32]) 1 (fun _ _ _ _ => rfl) ?_
        have h := Option.some.inj h
        subst h
        exact py_ir (pc := 40) (len := 1) (ty := .int) rfl rfl rfl hS12
    | false =>
      have h := cd_f hb8 h
      refine py_if (pc := 15) (len := 3) false rfl hb8 ?_
      refine py_its (pc := 18) (pc1 := 19) (lv1 := [(0, .ref 0), (1, .int a1)]) (st1 := [.int (Int32.ofInt (-1))]) 1 (fun _ _ _ _ => rfl) ?_
      have h := Option.some.inj h
      subst h
      exact py_ir (pc := 19) (len := 1) (ty := .int) rfl rfl rfl hS
/-! Chest_part -/
noncomputable def fn_Chest_part (c0 : Nat) (a1 : Int32) (hp : px_H) : Option (Int32) :=
  some ((sx_lus (gL hp c0 0) ((Int8.ofInt 10).toInt32 * a1)).toInt32 &&& (Int16.ofInt 1023).toInt32)
theorem fx_Chest_part {c0 : Nat} {a1 : Int32} {hp : px_H} {res : Int32} (hc0 : c0 ∈ [19, 20, 47, 66, 67, 68]) (hS : oS hp) (h : fn_Chest_part c0 a1 hp = some res) : px_C nm_T nm_P mi_Chest_part [.ref c0, .int a1] hp (some (.int res)) hp ∧ oS hp := by
  unfold fn_Chest_part at h
  refine py_C (M := mm_Chest_part) rfl (Nat.le_of_ble_eq_true rfl) ?_
  show px_Y mm_Chest_part 0 [(0, .ref c0), (1, .int a1)] [] hp _ _
  refine py_its (pc := 0) (pc1 := 1) (lv1 := [(0, .ref c0), (1, .int a1)]) (st1 := [.ref c0]) 1 (fun _ _ _ _ => rfl) ?_
  refine py_gL (pc := 1) (len := 3) (cs := [19, 20, 47, 66, 67, 68]) rfl rfl rfl hc0 hS ?_
  refine py_its (pc := 4) (pc1 := 14) (lv1 := [(0, .ref c0), (1, .int a1)]) (st1 := [.int ((sx_lus (gL hp c0 0) ((Int8.ofInt 10).toInt32 * a1)).toInt32 &&& (Int16.ofInt 1023).toInt32)]) 7 (fun _ _ _ _ => rfl) ?_
  have h := Option.some.inj h
  subst h
  exact py_ir (pc := 14) (len := 1) (ty := .int) rfl rfl rfl hS
/-! Course_barredAtFirst -/
noncomputable def fb_Course_barredAtFirst_L4 (v1 : Int32) (hp : px_H) (rc : Int32 → Int32 → Option (Int32)) (v2 : Int32) (v3 : Int32) : Option (Int32) :=
  bif px_cmp .ge v3 (gI hp (gR hp 21 1) 3) then
    some v2
  else
    (fn_Course_barredBy v3 (Int32.ofInt 0) v1 hp).bind fun q3 =>
    rc (v2 ||| q3) (v3 + Int32.ofInt 1)
noncomputable def fn_Course_barredAtFirst_L4 (v1 : Int32) (hp : px_H) : Nat → Int32 → Int32 → Option (Int32)
  | 0 => fun _ _ => none
  | n + 1 => fb_Course_barredAtFirst_L4 v1 hp (fn_Course_barredAtFirst_L4 v1 hp n)
theorem fl_Course_barredAtFirst_L4 {v1 : Int32} {hp : px_H}  : ∀ (n : Nat) (v2 : Int32) (v3 : Int32) (lv : List (Nat × Value)) (res : Int32), oS hp → lk lv [(0, .ref 21), (1, .int v1), (2, .int v2), (3, .int v3)] → fn_Course_barredAtFirst_L4 v1 hp n v2 v3 = some res → px_Y mm_Course_barredAtFirst 4 lv [] hp (some (.int res)) hp := by
  intro n
  induction n with
  | zero =>
    intro v2 v3 lv res hS hk h
    cases h
  | succ n ih =>
    intro v2 v3 lv res hS hk h
    have h : fb_Course_barredAtFirst_L4 v1 hp (fn_Course_barredAtFirst_L4 v1 hp n) v2 v3 = some res := h
    unfold fb_Course_barredAtFirst_L4 at h
    refine py_iln (pc := 4) (len := 1) (j := 3) rfl hk rfl ?_
    refine py_aln (pc := 5) (len := 1) (j := 0) rfl hk rfl ?_
    refine py_gR [14, 22, 54, 58, 62] (pc := 6) (len := 3) (cs := [21]) rfl rfl rfl List.mem_cons_self hS (fun hm1 => ?_)
    refine py_gI (pc := 9) (len := 3) (cs := [14, 22, 54, 58, 62]) rfl rfl rfl hm1 hS ?_
    cases hb2 : px_cmp .ge v3 (gI hp (gR hp 21 1) 3) with
    | true =>
      have h := cd_t hb2 h
      refine py_ic (pc := 12) (len := 3) true rfl hb2 ?_
      refine py_iln (pc := 31) (len := 1) (j := 2) rfl hk rfl ?_
      have h := Option.some.inj h
      subst h
      exact py_ir (pc := 32) (len := 1) (ty := .int) rfl rfl rfl hS
    | false =>
      have h := cd_f hb2 h
      refine py_ic (pc := 12) (len := 3) false rfl hb2 ?_
      refine py_iln (pc := 15) (len := 1) (j := 2) rfl hk rfl ?_
      refine py_aln (pc := 16) (len := 1) (j := 0) rfl hk rfl ?_
      refine py_iln (pc := 17) (len := 1) (j := 3) rfl hk rfl ?_
      refine py_its (pc := 18) (pc1 := 19) (lv1 := lv) (st1 := [.int (Int32.ofInt 0), .int v3, .ref 21, .int v2]) 1 (fun _ _ _ _ => rfl) ?_
      refine py_iln (pc := 19) (len := 1) (j := 1) rfl hk rfl ?_
      obtain ⟨q3, hq4, h⟩ := bd_e h
      have hC5 := (fx_Course_barredBy hS hq4).1
      refine py_vi (pc := 20) (mi := mi_Course_barredBy) (cs := [21]) (N := mm_Course_barredBy) rfl rfl rfl rfl List.mem_cons_self hS rfl (Nat.le_of_ble_eq_true rfl) (Nat.le_of_ble_eq_true rfl) rfl rfl hC5 ?_
      show px_Y mm_Course_barredAtFirst 23 lv [.int q3, .int v2] hp _ _
      refine py_its (pc := 23) (pc1 := 24) (lv1 := lv) (st1 := [.int (v2 ||| q3)]) 1 (fun _ _ _ _ => rfl) ?_
      refine py_sin (pc := 24) (len := 1) (j := 2) rfl rfl hk (fun lv6 hk7 => ?_)
      have hk7 : lk lv6 [(2, .int (v2 ||| q3)), (0, .ref 21), (1, .int v1), (3, .int v3)] := hk7
      refine py_inc (pc := 25) (len := 3) (j := 3) (n := 1) rfl rfl hk7 rfl (fun lv8 hk9 => ?_)
      have hk9 : lk lv8 [(3, .int (v3 + Int32.ofInt 1)), (2, .int (v2 ||| q3)), (0, .ref 21), (1, .int v1)] := hk9
      refine py_its (pc := 28) (pc1 := 4) (lv1 := lv8) (st1 := []) 1 (fun _ _ _ _ => rfl) ?_
      exact ih (v2 ||| q3) (v3 + Int32.ofInt 1) lv8 _ hS ⟨lk_find hk9 rfl, lk_find hk9 rfl, lk_find hk9 rfl, lk_find hk9 rfl, trivial⟩ h
noncomputable def fn_Course_barredAtFirst (a1 : Int32) (hp : px_H) : Option (Int32) :=
  fn_Course_barredAtFirst_L4 a1 hp fu (Int32.ofInt 0) (Int32.ofInt 0)
theorem fx_Course_barredAtFirst {a1 : Int32} {hp : px_H} {res : Int32} (hS : oS hp) (h : fn_Course_barredAtFirst a1 hp = some res) : px_C nm_T nm_P mi_Course_barredAtFirst [.ref 21, .int a1] hp (some (.int res)) hp ∧ oS hp := by
  unfold fn_Course_barredAtFirst at h
  refine py_C (M := mm_Course_barredAtFirst) rfl (Nat.le_of_ble_eq_true rfl) ?_
  show px_Y mm_Course_barredAtFirst 0 [(0, .ref 21), (1, .int a1)] [] hp _ _
  refine py_its (pc := 0) (pc1 := 4) (lv1 := [(3, .int (Int32.ofInt 0)), (2, .int (Int32.ofInt 0)), (0, .ref 21), (1, .int a1)]) (st1 := []) 4 (fun _ _ _ _ => rfl) ?_
  exact fl_Course_barredAtFirst_L4 fu (Int32.ofInt 0) (Int32.ofInt 0) [(3, .int (Int32.ofInt 0)), (2, .int (Int32.ofInt 0)), (0, .ref 21), (1, .int a1)] _ hS ⟨rfl, rfl, rfl, rfl, trivial⟩ h
/-! Chest_open -/
noncomputable def fn_Chest_open (c0 : Nat) (hp : px_H) : Option (px_H) :=
  (fn_Chest_setPart c0 (Int32.ofInt 5) (Int32.ofInt 0) hp).bind fun q1 =>
  (fn_Chest_part c0 (gI q1 21 5) q1).bind fun q5 =>
  bif px_cmp .ne q5 0 then
    (fn_Chest_part c0 ((Int32.ofInt 2) + (gI q1 21 5)) q1).bind fun q9 =>
    bif px_cmp .eq q9 0 then
      some q1
    else
      (fn_Course_barredAtFirst (gI q1 c0 1) q1).bind fun q13 =>
      (fn_Chest_part c0 (gI q1 21 5) q1).bind fun q16 =>
      (fn_Chest_setPart c0 (gI q1 21 5) (q16 ||| (q9 &&& (q13 ^^^ (Int32.ofInt (-1))))) q1).bind fun q19 =>
      (fn_Chest_setPart c0 ((Int32.ofInt 2) + (gI q1 21 5)) (q9 &&& ((q9 &&& (q13 ^^^ (Int32.ofInt (-1)))) ^^^ (Int32.ofInt (-1)))) q19).bind fun q23 =>
      some q23
  else
    bif px_inR (gI q1 21 5) 2 then
    bif px_cmp .eq (aI q1 8 (gI q1 21 5).toNatClampNeg) 0 then
      (fn_Chest_part c0 ((Int32.ofInt 2) + (gI q1 21 5)) q1).bind fun q29 =>
      bif px_cmp .eq q29 0 then
        some q1
      else
        (fn_Course_barredAtFirst (gI q1 c0 1) q1).bind fun q33 =>
        (fn_Chest_part c0 (gI q1 21 5) q1).bind fun q36 =>
        (fn_Chest_setPart c0 (gI q1 21 5) (q36 ||| (q29 &&& (q33 ^^^ (Int32.ofInt (-1))))) q1).bind fun q39 =>
        (fn_Chest_setPart c0 ((Int32.ofInt 2) + (gI q1 21 5)) (q29 &&& ((q29 &&& (q33 ^^^ (Int32.ofInt (-1)))) ^^^ (Int32.ofInt (-1)))) q39).bind fun q43 =>
        some q43
    else
      bif px_inR (gI q1 21 5) 2 then
      (fn_Chest_setPart c0 (gI q1 21 5) (aI q1 26 (gI q1 21 5).toNatClampNeg) q1).bind fun q48 =>
      (fn_Chest_setPart c0 ((Int32.ofInt 2) + (gI q1 21 5)) (Int32.ofInt 0) q48).bind fun q52 =>
      some q52
      else none
    else none
theorem fx_Chest_open {c0 : Nat} {hp : px_H} {res : px_H} (hc0 : c0 ∈ [19, 20, 47, 66, 67, 68]) (hS : oS hp) (h : fn_Chest_open c0 hp = some res) : px_C nm_T nm_P mi_Chest_open [.ref c0, .ref 21] hp none res ∧ oS res := by
  unfold fn_Chest_open at h
  refine py_C (M := mm_Chest_open) rfl (Nat.le_of_ble_eq_true rfl) ?_
  show px_Y mm_Chest_open 0 [(0, .ref c0), (1, .ref 21)] [] hp _ _
  refine py_its (pc := 0) (pc1 := 3) (lv1 := [(0, .ref c0), (1, .ref 21)]) (st1 := [.int (Int32.ofInt 0), .int (Int32.ofInt 5), .ref c0]) 3 (fun _ _ _ _ => rfl) ?_
  obtain ⟨q1, hq2, h⟩ := bd_e h
  obtain ⟨hC3, hS4⟩ := fx_Chest_setPart hc0 hS hq2
  refine py_vi (pc := 3) (mi := mi_Chest_setPart) (cs := [19, 20, 47, 66, 67, 68]) (N := mm_Chest_setPart) rfl rfl rfl rfl hc0 hS rfl (Nat.le_of_ble_eq_true rfl) (Nat.le_of_ble_eq_true rfl) rfl rfl hC3 ?_
  show px_Y mm_Chest_open 6 [(0, .ref c0), (1, .ref 21)] [] q1 _ _
  refine py_its (pc := 6) (pc1 := 7) (lv1 := [(0, .ref c0), (1, .ref 21)]) (st1 := [.ref 21]) 1 (fun _ _ _ _ => rfl) ?_
  refine py_gI (pc := 7) (len := 3) (cs := [21]) rfl rfl rfl List.mem_cons_self hS4 ?_
  refine py_its (pc := 10) (pc1 := 13) (lv1 := [(2, .int (gI q1 21 5)), (0, .ref c0), (1, .ref 21)]) (st1 := [.int (gI q1 21 5), .ref c0]) 3 (fun _ _ _ _ => rfl) ?_
  obtain ⟨q5, hq6, h⟩ := bd_e h
  have hC7 := (fx_Chest_part hc0 hS4 hq6).1
  refine py_vi (pc := 13) (mi := mi_Chest_part) (cs := [19, 20, 47, 66, 67, 68]) (N := mm_Chest_part) rfl rfl rfl rfl hc0 hS4 rfl (Nat.le_of_ble_eq_true rfl) (Nat.le_of_ble_eq_true rfl) rfl rfl hC7 ?_
  show px_Y mm_Chest_open 16 [(2, .int (gI q1 21 5)), (0, .ref c0), (1, .ref 21)] [.int q5] q1 _ _
  cases hb8 : px_cmp .ne q5 0 with
  | true =>
    have h := cd_t hb8 h
    refine py_if (pc := 16) (len := 3) true rfl hb8 ?_
    refine py_its (pc := 51) (pc1 := 55) (lv1 := [(2, .int (gI q1 21 5)), (0, .ref c0), (1, .ref 21)]) (st1 := [.int ((Int32.ofInt 2) + (gI q1 21 5)), .ref c0]) 4 (fun _ _ _ _ => rfl) ?_
    obtain ⟨q9, hq10, h⟩ := bd_e h
    have hC11 := (fx_Chest_part hc0 hS4 hq10).1
    refine py_vi (pc := 55) (mi := mi_Chest_part) (cs := [19, 20, 47, 66, 67, 68]) (N := mm_Chest_part) rfl rfl rfl rfl hc0 hS4 rfl (Nat.le_of_ble_eq_true rfl) (Nat.le_of_ble_eq_true rfl) rfl rfl hC11 ?_
    show px_Y mm_Chest_open 58 [(2, .int (gI q1 21 5)), (0, .ref c0), (1, .ref 21)] [.int q9] q1 _ _
    refine py_its (pc := 58) (pc1 := 60) (lv1 := [(3, .int q9), (2, .int (gI q1 21 5)), (0, .ref c0), (1, .ref 21)]) (st1 := [.int q9]) 2 (fun _ _ _ _ => rfl) ?_
    cases hb12 : px_cmp .eq q9 0 with
    | true =>
      have h := cd_t hb12 h
      refine py_if (pc := 60) (len := 3) true rfl hb12 ?_
      have h := Option.some.inj h
      subst h
      exact py_rt (pc := 103) (len := 1) rfl rfl hS4
    | false =>
      have h := cd_f hb12 h
      refine py_if (pc := 60) (len := 3) false rfl hb12 ?_
      refine py_its (pc := 63) (pc1 := 66) (lv1 := [(3, .int q9), (2, .int (gI q1 21 5)), (0, .ref c0), (1, .ref 21)]) (st1 := [.ref c0, .ref 21, .int q9]) 3 (fun _ _ _ _ => rfl) ?_
      refine py_gI (pc := 66) (len := 3) (cs := [19, 20, 47, 66, 67, 68]) rfl rfl rfl hc0 hS4 ?_
      obtain ⟨q13, hq14, h⟩ := bd_e h
      have hC15 := (fx_Course_barredAtFirst hS4 hq14).1
      refine py_vi (pc := 69) (mi := mi_Course_barredAtFirst) (cs := [21]) (N := mm_Course_barredAtFirst) rfl rfl rfl rfl List.mem_cons_self hS4 rfl (Nat.le_of_ble_eq_true rfl) (Nat.le_of_ble_eq_true rfl) rfl rfl hC15 ?_
      show px_Y mm_Chest_open 72 [(3, .int q9), (2, .int (gI q1 21 5)), (0, .ref c0), (1, .ref 21)] [.int q13, .int q9] q1 _ _
      refine py_its (pc := 72) (pc1 := 81) (lv1 := [(4, .int (q9 &&& (q13 ^^^ (Int32.ofInt (-1))))), (3, .int q9), (2, .int (gI q1 21 5)), (0, .ref c0), (1, .ref 21)]) (st1 := [.int (gI q1 21 5), .ref c0, .int (gI q1 21 5), .ref c0]) 8 (fun _ _ _ _ => rfl) ?_
      obtain ⟨q16, hq17, h⟩ := bd_e h
      have hC18 := (fx_Chest_part hc0 hS4 hq17).1
      refine py_vi (pc := 81) (mi := mi_Chest_part) (cs := [19, 20, 47, 66, 67, 68]) (N := mm_Chest_part) rfl rfl rfl rfl hc0 hS4 rfl (Nat.le_of_ble_eq_true rfl) (Nat.le_of_ble_eq_true rfl) rfl rfl hC18 ?_
      show px_Y mm_Chest_open 84 [(4, .int (q9 &&& (q13 ^^^ (Int32.ofInt (-1))))), (3, .int q9), (2, .int (gI q1 21 5)), (0, .ref c0), (1, .ref 21)] [.int q16, .int (gI q1 21 5), .ref c0] q1 _ _
      refine py_its (pc := 84) (pc1 := 87) (lv1 := [(4, .int (q9 &&& (q13 ^^^ (Int32.ofInt (-1))))), (3, .int q9), (2, .int (gI q1 21 5)), (0, .ref c0), (1, .ref 21)]) (st1 := [.int (q16 ||| (q9 &&& (q13 ^^^ (Int32.ofInt (-1))))), .int (gI q1 21 5), .ref c0]) 2 (fun _ _ _ _ => rfl) ?_
      obtain ⟨q19, hq20, h⟩ := bd_e h
      obtain ⟨hC21, hS22⟩ := fx_Chest_setPart hc0 hS4 hq20
      refine py_vi (pc := 87) (mi := mi_Chest_setPart) (cs := [19, 20, 47, 66, 67, 68]) (N := mm_Chest_setPart) rfl rfl rfl rfl hc0 hS4 rfl (Nat.le_of_ble_eq_true rfl) (Nat.le_of_ble_eq_true rfl) rfl rfl hC21 ?_
      show px_Y mm_Chest_open 90 [(4, .int (q9 &&& (q13 ^^^ (Int32.ofInt (-1))))), (3, .int q9), (2, .int (gI q1 21 5)), (0, .ref c0), (1, .ref 21)] [] q19 _ _
      refine py_its (pc := 90) (pc1 := 100) (lv1 := [(4, .int (q9 &&& (q13 ^^^ (Int32.ofInt (-1))))), (3, .int q9), (2, .int (gI q1 21 5)), (0, .ref c0), (1, .ref 21)]) (st1 := [.int (q9 &&& ((q9 &&& (q13 ^^^ (Int32.ofInt (-1)))) ^^^ (Int32.ofInt (-1)))), .int ((Int32.ofInt 2) + (gI q1 21 5)), .ref c0]) 9 (fun _ _ _ _ => rfl) ?_
      obtain ⟨q23, hq24, h⟩ := bd_e h
      obtain ⟨hC25, hS26⟩ := fx_Chest_setPart hc0 hS22 hq24
      refine py_vi (pc := 100) (mi := mi_Chest_setPart) (cs := [19, 20, 47, 66, 67, 68]) (N := mm_Chest_setPart) rfl rfl rfl rfl hc0 hS22 rfl (Nat.le_of_ble_eq_true rfl) (Nat.le_of_ble_eq_true rfl) rfl rfl hC25 ?_
      show px_Y mm_Chest_open 103 [(4, .int (q9 &&& (q13 ^^^ (Int32.ofInt (-1))))), (3, .int q9), (2, .int (gI q1 21 5)), (0, .ref c0), (1, .ref 21)] [] q23 _ _
      have h := Option.some.inj h
      subst h
      exact py_rt (pc := 103) (len := 1) rfl rfl hS26
  | false =>
    have h := cd_f hb8 h
    refine py_if (pc := 16) (len := 3) false rfl hb8 ?_
    refine py_its (pc := 19) (pc1 := 20) (lv1 := [(2, .int (gI q1 21 5)), (0, .ref c0), (1, .ref 21)]) (st1 := [.ref 21]) 1 (fun _ _ _ _ => rfl) ?_
    refine py_g1 1 (pc := 20) (len := 3) (cs := [21]) rfl rfl rfl List.mem_cons_self hS4 ?_
    refine py_g1 8 (pc := 23) (len := 3) (cs := [1]) rfl rfl rfl List.mem_cons_self hS4 ?_
    refine py_its (pc := 26) (pc1 := 27) (lv1 := [(2, .int (gI q1 21 5)), (0, .ref c0), (1, .ref 21)]) (st1 := [.int (gI q1 21 5), .ref 8]) 1 (fun _ _ _ _ => rfl) ?_
    obtain ⟨hi27, h⟩ := cd_n h
    refine py_ab (pc := 27) (len := 1) (cs := [8]) (t := 18) (n := 2) rfl rfl rfl hi27 List.mem_cons_self hS4 ?_
    cases hb28 : px_cmp .eq (aI q1 8 (gI q1 21 5).toNatClampNeg) 0 with
    | true =>
      have h := cd_t hb28 h
      refine py_if (pc := 28) (len := 3) true rfl hb28 ?_
      refine py_its (pc := 51) (pc1 := 55) (lv1 := [(2, .int (gI q1 21 5)), (0, .ref c0), (1, .ref 21)]) (st1 := [.int ((Int32.ofInt 2) + (gI q1 21 5)), .ref c0]) 4 (fun _ _ _ _ => rfl) ?_
      obtain ⟨q29, hq30, h⟩ := bd_e h
      have hC31 := (fx_Chest_part hc0 hS4 hq30).1
      refine py_vi (pc := 55) (mi := mi_Chest_part) (cs := [19, 20, 47, 66, 67, 68]) (N := mm_Chest_part) rfl rfl rfl rfl hc0 hS4 rfl (Nat.le_of_ble_eq_true rfl) (Nat.le_of_ble_eq_true rfl) rfl rfl hC31 ?_
      show px_Y mm_Chest_open 58 [(2, .int (gI q1 21 5)), (0, .ref c0), (1, .ref 21)] [.int q29] q1 _ _
      refine py_its (pc := 58) (pc1 := 60) (lv1 := [(3, .int q29), (2, .int (gI q1 21 5)), (0, .ref c0), (1, .ref 21)]) (st1 := [.int q29]) 2 (fun _ _ _ _ => rfl) ?_
      cases hb32 : px_cmp .eq q29 0 with
      | true =>
        have h := cd_t hb32 h
        refine py_if (pc := 60) (len := 3) true rfl hb32 ?_
        have h := Option.some.inj h
        subst h
        exact py_rt (pc := 103) (len := 1) rfl rfl hS4
      | false =>
        have h := cd_f hb32 h
        refine py_if (pc := 60) (len := 3) false rfl hb32 ?_
        refine py_its (pc := 63) (pc1 := 66) (lv1 := [(3, .int q29), (2, .int (gI q1 21 5)), (0, .ref c0), (1, .ref 21)]) (st1 := [.ref c0, .ref 21, .int q29]) 3 (fun _ _ _ _ => rfl) ?_
        refine py_gI (pc := 66) (len := 3) (cs := [19, 20, 47, 66, 67, 68]) rfl rfl rfl hc0 hS4 ?_
        obtain ⟨q33, hq34, h⟩ := bd_e h
        have hC35 := (fx_Course_barredAtFirst hS4 hq34).1
        refine py_vi (pc := 69) (mi := mi_Course_barredAtFirst) (cs := [21]) (N := mm_Course_barredAtFirst) rfl rfl rfl rfl List.mem_cons_self hS4 rfl (Nat.le_of_ble_eq_true rfl) (Nat.le_of_ble_eq_true rfl) rfl rfl hC35 ?_
        show px_Y mm_Chest_open 72 [(3, .int q29), (2, .int (gI q1 21 5)), (0, .ref c0), (1, .ref 21)] [.int q33, .int q29] q1 _ _
        refine py_its (pc := 72) (pc1 := 81) (lv1 := [(4, .int (q29 &&& (q33 ^^^ (Int32.ofInt (-1))))), (3, .int q29), (2, .int (gI q1 21 5)), (0, .ref c0), (1, .ref 21)]) (st1 := [.int (gI q1 21 5), .ref c0, .int (gI q1 21 5), .ref c0]) 8 (fun _ _ _ _ => rfl) ?_
        obtain ⟨q36, hq37, h⟩ := bd_e h
        have hC38 := (fx_Chest_part hc0 hS4 hq37).1
        refine py_vi (pc := 81) (mi := mi_Chest_part) (cs := [19, 20, 47, 66, 67, 68]) (N := mm_Chest_part) rfl rfl rfl rfl hc0 hS4 rfl (Nat.le_of_ble_eq_true rfl) (Nat.le_of_ble_eq_true rfl) rfl rfl hC38 ?_
        show px_Y mm_Chest_open 84 [(4, .int (q29 &&& (q33 ^^^ (Int32.ofInt (-1))))), (3, .int q29), (2, .int (gI q1 21 5)), (0, .ref c0), (1, .ref 21)] [.int q36, .int (gI q1 21 5), .ref c0] q1 _ _
        refine py_its (pc := 84) (pc1 := 87) (lv1 := [(4, .int (q29 &&& (q33 ^^^ (Int32.ofInt (-1))))), (3, .int q29), (2, .int (gI q1 21 5)), (0, .ref c0), (1, .ref 21)]) (st1 := [.int (q36 ||| (q29 &&& (q33 ^^^ (Int32.ofInt (-1))))), .int (gI q1 21 5), .ref c0]) 2 (fun _ _ _ _ => rfl) ?_
        obtain ⟨q39, hq40, h⟩ := bd_e h
        obtain ⟨hC41, hS42⟩ := fx_Chest_setPart hc0 hS4 hq40
        refine py_vi (pc := 87) (mi := mi_Chest_setPart) (cs := [19, 20, 47, 66, 67, 68]) (N := mm_Chest_setPart) rfl rfl rfl rfl hc0 hS4 rfl (Nat.le_of_ble_eq_true rfl) (Nat.le_of_ble_eq_true rfl) rfl rfl hC41 ?_
        show px_Y mm_Chest_open 90 [(4, .int (q29 &&& (q33 ^^^ (Int32.ofInt (-1))))), (3, .int q29), (2, .int (gI q1 21 5)), (0, .ref c0), (1, .ref 21)] [] q39 _ _
        refine py_its (pc := 90) (pc1 := 100) (lv1 := [(4, .int (q29 &&& (q33 ^^^ (Int32.ofInt (-1))))), (3, .int q29), (2, .int (gI q1 21 5)), (0, .ref c0), (1, .ref 21)]) (st1 := [.int (q29 &&& ((q29 &&& (q33 ^^^ (Int32.ofInt (-1)))) ^^^ (Int32.ofInt (-1)))), .int ((Int32.ofInt 2) + (gI q1 21 5)), .ref c0]) 9 (fun _ _ _ _ => rfl) ?_
        obtain ⟨q43, hq44, h⟩ := bd_e h
        obtain ⟨hC45, hS46⟩ := fx_Chest_setPart hc0 hS42 hq44
        refine py_vi (pc := 100) (mi := mi_Chest_setPart) (cs := [19, 20, 47, 66, 67, 68]) (N := mm_Chest_setPart) rfl rfl rfl rfl hc0 hS42 rfl (Nat.le_of_ble_eq_true rfl) (Nat.le_of_ble_eq_true rfl) rfl rfl hC45 ?_
        show px_Y mm_Chest_open 103 [(4, .int (q29 &&& (q33 ^^^ (Int32.ofInt (-1))))), (3, .int q29), (2, .int (gI q1 21 5)), (0, .ref c0), (1, .ref 21)] [] q43 _ _
        have h := Option.some.inj h
        subst h
        exact py_rt (pc := 103) (len := 1) rfl rfl hS46
    | false =>
      have h := cd_f hb28 h
      refine py_if (pc := 28) (len := 3) false rfl hb28 ?_
      refine py_its (pc := 31) (pc1 := 34) (lv1 := [(2, .int (gI q1 21 5)), (0, .ref c0), (1, .ref 21)]) (st1 := [.ref 21, .int (gI q1 21 5), .ref c0]) 3 (fun _ _ _ _ => rfl) ?_
      refine py_g1 26 (pc := 34) (len := 3) (cs := [21]) rfl rfl rfl List.mem_cons_self hS4 ?_
      refine py_its (pc := 37) (pc1 := 38) (lv1 := [(2, .int (gI q1 21 5)), (0, .ref c0), (1, .ref 21)]) (st1 := [.int (gI q1 21 5), .ref 26, .int (gI q1 21 5), .ref c0]) 1 (fun _ _ _ _ => rfl) ?_
      obtain ⟨hi47, h⟩ := cd_n h
      refine py_ai (pc := 38) (len := 1) (cs := [26]) (t := 3) (n := 2) rfl rfl rfl hi47 List.mem_cons_self hS4 ?_
      obtain ⟨q48, hq49, h⟩ := bd_e h
      obtain ⟨hC50, hS51⟩ := fx_Chest_setPart hc0 hS4 hq49
      refine py_vi (pc := 39) (mi := mi_Chest_setPart) (cs := [19, 20, 47, 66, 67, 68]) (N := mm_Chest_setPart) rfl rfl rfl rfl hc0 hS4 rfl (Nat.le_of_ble_eq_true rfl) (Nat.le_of_ble_eq_true rfl) rfl rfl hC50 ?_
      show px_Y mm_Chest_open 42 [(2, .int (gI q1 21 5)), (0, .ref c0), (1, .ref 21)] [] q48 _ _
      refine py_its (pc := 42) (pc1 := 47) (lv1 := [(2, .int (gI q1 21 5)), (0, .ref c0), (1, .ref 21)]) (st1 := [.int (Int32.ofInt 0), .int ((Int32.ofInt 2) + (gI q1 21 5)), .ref c0]) 5 (fun _ _ _ _ => rfl) ?_
      obtain ⟨q52, hq53, h⟩ := bd_e h
      obtain ⟨hC54, hS55⟩ := fx_Chest_setPart hc0 hS51 hq53
      refine py_vi (pc := 47) (mi := mi_Chest_setPart) (cs := [19, 20, 47, 66, 67, 68]) (N := mm_Chest_setPart) rfl rfl rfl rfl hc0 hS51 rfl (Nat.le_of_ble_eq_true rfl) (Nat.le_of_ble_eq_true rfl) rfl rfl hC54 ?_
      show px_Y mm_Chest_open 50 [(2, .int (gI q1 21 5)), (0, .ref c0), (1, .ref 21)] [] q52 _ _
      have h := Option.some.inj h
      subst h
      exact py_rt (pc := 50) (len := 1) rfl rfl hS55
/-! Row_clear -/
noncomputable def fn_Row_clear  (hp : px_H) : Option (px_H) :=
  sb (wF hp 48 1 (.int (Int32.ofInt 0))) fun h1 =>
  some h1
theorem fx_Row_clear  {hp : px_H} {res : px_H} (hS : oS hp) (h : fn_Row_clear hp = some res) : px_C nm_T nm_P mi_Row_clear [.ref 48] hp none res ∧ oS res := by
  unfold fn_Row_clear at h
  refine py_C (M := mm_Row_clear) rfl (Nat.le_of_ble_eq_true rfl) ?_
  show px_Y mm_Row_clear 0 [(0, .ref 48)] [] hp _ _
  refine py_its (pc := 0) (pc1 := 2) (lv1 := [(0, .ref 48)]) (st1 := [.int (Int32.ofInt 0), .ref 48]) 2 (fun _ _ _ _ => rfl) ?_
  have h := sb_e h
  refine py_pI (pc := 2) (len := 3) (cs := [48]) rfl rfl rfl List.mem_cons_self hS rfl rfl rfl rfl ?_
  have hS2 : oS (wF hp 48 1 (.int (Int32.ofInt 0))) := oS_wI (cs := [48]) (ci := 2) rfl List.mem_cons_self hS
  generalize (wF hp 48 1 (.int (Int32.ofInt 0))) = h1 at h hS2 ⊢
  have h := Option.some.inj h
  subst h
  exact py_rt (pc := 5) (len := 1) rfl rfl hS2
/-! Chest_isOver -/
noncomputable def fn_Chest_isOver (c0 : Nat) (hp : px_H) : Option (Int32) :=
  (fn_Chest_part c0 (gI hp 21 5) hp).bind fun q1 =>
  bif px_cmp .eq q1 0 then
    some (Int32.ofInt 1)
  else
    (fn_Chest_part c0 (Int32.ofInt 5) hp).bind fun q5 =>
    bif px_cmp .lt (nm_bc q5) (gI hp 21 6) then
      some (Int32.ofInt 0)
    else
      some (Int32.ofInt 1)
theorem fx_Chest_isOver {c0 : Nat} {hp : px_H} {res : Int32} (hc0 : c0 ∈ [19, 20, 47, 66, 67, 68]) (hS : oS hp) (h : fn_Chest_isOver c0 hp = some res) : px_C nm_T nm_P mi_Chest_isOver [.ref c0, .ref 21] hp (some (.int res)) hp ∧ oS hp := by
  unfold fn_Chest_isOver at h
  refine py_C (M := mm_Chest_isOver) rfl (Nat.le_of_ble_eq_true rfl) ?_
  show px_Y mm_Chest_isOver 0 [(0, .ref c0), (1, .ref 21)] [] hp _ _
  refine py_its (pc := 0) (pc1 := 2) (lv1 := [(0, .ref c0), (1, .ref 21)]) (st1 := [.ref 21, .ref c0]) 2 (fun _ _ _ _ => rfl) ?_
  refine py_gI (pc := 2) (len := 3) (cs := [21]) rfl rfl rfl List.mem_cons_self hS ?_
  obtain ⟨q1, hq2, h⟩ := bd_e h
  have hC3 := (fx_Chest_part hc0 hS hq2).1
  refine py_vi (pc := 5) (mi := mi_Chest_part) (cs := [19, 20, 47, 66, 67, 68]) (N := mm_Chest_part) rfl rfl rfl rfl hc0 hS rfl (Nat.le_of_ble_eq_true rfl) (Nat.le_of_ble_eq_true rfl) rfl rfl hC3 ?_
  show px_Y mm_Chest_isOver 8 [(0, .ref c0), (1, .ref 21)] [.int q1] hp _ _
  cases hb4 : px_cmp .eq q1 0 with
  | true =>
    have h := cd_t hb4 h
    refine py_if (pc := 8) (len := 3) true rfl hb4 ?_
    refine py_its (pc := 26) (pc1 := 31) (lv1 := [(0, .ref c0), (1, .ref 21)]) (st1 := [.int (Int32.ofInt 1)]) 2 (fun _ _ _ _ => rfl) ?_
    have h := Option.some.inj h
    subst h
    exact py_ir (pc := 31) (len := 1) (ty := .boolean) rfl rfl (by decide) hS
  | false =>
    have h := cd_f hb4 h
    refine py_if (pc := 8) (len := 3) false rfl hb4 ?_
    refine py_its (pc := 11) (pc1 := 13) (lv1 := [(0, .ref c0), (1, .ref 21)]) (st1 := [.int (Int32.ofInt 5), .ref c0]) 2 (fun _ _ _ _ => rfl) ?_
    obtain ⟨q5, hq6, h⟩ := bd_e h
    have hC7 := (fx_Chest_part hc0 hS hq6).1
    refine py_vi (pc := 13) (mi := mi_Chest_part) (cs := [19, 20, 47, 66, 67, 68]) (N := mm_Chest_part) rfl rfl rfl rfl hc0 hS rfl (Nat.le_of_ble_eq_true rfl) (Nat.le_of_ble_eq_true rfl) rfl rfl hC7 ?_
    show px_Y mm_Chest_isOver 16 [(0, .ref c0), (1, .ref 21)] [.int q5] hp _ _
    refine py_st (pc := 16) (mi := mi_I_bitCount) (N := mm_I_bitCount) rfl rfl rfl (Nat.le_of_ble_eq_true rfl) (Nat.le_of_ble_eq_true rfl) rfl rfl (nm_bc_C q5 hp) ?_
    show px_Y mm_Chest_isOver 19 [(0, .ref c0), (1, .ref 21)] [.int (nm_bc q5)] hp _ _
    refine py_its (pc := 19) (pc1 := 20) (lv1 := [(0, .ref c0), (1, .ref 21)]) (st1 := [.ref 21, .int (nm_bc q5)]) 1 (fun _ _ _ _ => rfl) ?_
    refine py_gI (pc := 20) (len := 3) (cs := [21]) rfl rfl rfl List.mem_cons_self hS ?_
    cases hb8 : px_cmp .lt (nm_bc q5) (gI hp 21 6) with
    | true =>
      have h := cd_t hb8 h
      refine py_ic (pc := 23) (len := 3) true rfl hb8 ?_
      refine py_its (pc := 30) (pc1 := 31) (lv1 := [(0, .ref c0), (1, .ref 21)]) (st1 := [.int (Int32.ofInt 0)]) 1 (fun _ _ _ _ => rfl) ?_
      have h := Option.some.inj h
      subst h
      exact py_ir (pc := 31) (len := 1) (ty := .boolean) rfl rfl (by decide) hS
    | false =>
      have h := cd_f hb8 h
      refine py_ic (pc := 23) (len := 3) false rfl hb8 ?_
      refine py_its (pc := 26) (pc1 := 31) (lv1 := [(0, .ref c0), (1, .ref 21)]) (st1 := [.int (Int32.ofInt 1)]) 2 (fun _ _ _ _ => rfl) ?_
      have h := Option.some.inj h
      subst h
      exact py_ir (pc := 31) (len := 1) (ty := .boolean) rfl rfl (by decide) hS
/-! X_drawSlip -/
noncomputable def fb_X_drawSlip_L42 (v1 : Int32) (hp : px_H) (rc : Int32 → Int32 → Option (Int32 × px_H)) (v3 : Int32) (v4 : Int32) : Option (Int32 × px_H) :=
  bif px_cmp .ge v4 (Int8.ofInt 10).toInt32 then
    some ((Int32.ofInt 0), hp)
  else
    bif px_cmp .eq ((v1 >>> (v4 &&& 31)) &&& (Int32.ofInt 1)) 0 then
      rc v3 (v4 + Int32.ofInt 1)
    else
      bif px_cmp .ne v3 0 then
        rc (v3 + Int32.ofInt (-1)) (v4 + Int32.ofInt 1)
      else
        some (v4, hp)
noncomputable def fn_X_drawSlip_L42 (v1 : Int32) (hp : px_H) : Nat → Int32 → Int32 → Option (Int32 × px_H)
  | 0 => fun _ _ => none
  | n + 1 => fb_X_drawSlip_L42 v1 hp (fn_X_drawSlip_L42 v1 hp n)
theorem fl_X_drawSlip_L42 {v1 : Int32} {hp : px_H}  : ∀ (n : Nat) (v3 : Int32) (v4 : Int32) (lv : List (Nat × Value)) (res : Int32 × px_H), oS hp → lk lv [(1, .int v1), (3, .int v3), (4, .int v4)] → fn_X_drawSlip_L42 v1 hp n v3 v4 = some res → px_Y mm_X_drawSlip 42 lv [] hp (some (.int res.1)) res.2 := by
  intro n
  induction n with
  | zero =>
    intro v3 v4 lv res hS hk h
    cases h
  | succ n ih =>
    intro v3 v4 lv res hS hk h
    have h : fb_X_drawSlip_L42 v1 hp (fn_X_drawSlip_L42 v1 hp n) v3 v4 = some res := h
    unfold fb_X_drawSlip_L42 at h
    refine py_il (pc := 42) (len := 2) (j := 4) rfl hk rfl ?_
    refine py_its (pc := 44) (pc1 := 46) (lv1 := lv) (st1 := [.int (Int8.ofInt 10).toInt32, .int v4]) 1 (fun _ _ _ _ => rfl) ?_
    cases hb5 : px_cmp .ge v4 (Int8.ofInt 10).toInt32 with
    | true =>
      have h := cd_t hb5 h
      refine py_ic (pc := 46) (len := 3) true rfl hb5 ?_
      refine py_its (pc := 74) (pc1 := 75) (lv1 := lv) (st1 := [.int (Int32.ofInt 0)]) 1 (fun _ _ _ _ => rfl) ?_
      have h := Option.some.inj h
      subst h
      exact py_ir (pc := 75) (len := 1) (ty := .int) rfl rfl rfl hS
    | false =>
      have h := cd_f hb5 h
      refine py_ic (pc := 46) (len := 3) false rfl hb5 ?_
      refine py_iln (pc := 49) (len := 1) (j := 1) rfl hk rfl ?_
      refine py_il (pc := 50) (len := 2) (j := 4) rfl hk rfl ?_
      refine py_its (pc := 52) (pc1 := 55) (lv1 := lv) (st1 := [.int ((v1 >>> (v4 &&& 31)) &&& (Int32.ofInt 1))]) 3 (fun _ _ _ _ => rfl) ?_
      cases hb6 : px_cmp .eq ((v1 >>> (v4 &&& 31)) &&& (Int32.ofInt 1)) 0 with
      | true =>
        have h := cd_t hb6 h
        refine py_if (pc := 55) (len := 3) true rfl hb6 ?_
        refine py_inc (pc := 68) (len := 3) (j := 4) (n := 1) rfl rfl hk rfl (fun lv7 hk8 => ?_)
        have hk8 : lk lv7 [(4, .int (v4 + Int32.ofInt 1)), (1, .int v1), (3, .int v3)] := hk8
        refine py_its (pc := 71) (pc1 := 42) (lv1 := lv7) (st1 := []) 1 (fun _ _ _ _ => rfl) ?_
        exact ih v3 (v4 + Int32.ofInt 1) lv7 _ hS ⟨lk_find hk8 rfl, lk_find hk8 rfl, lk_find hk8 rfl, trivial⟩ h
      | false =>
        have h := cd_f hb6 h
        refine py_if (pc := 55) (len := 3) false rfl hb6 ?_
        refine py_iln (pc := 58) (len := 1) (j := 3) rfl hk rfl ?_
        cases hb9 : px_cmp .ne v3 0 with
        | true =>
          have h := cd_t hb9 h
          refine py_if (pc := 59) (len := 3) true rfl hb9 ?_
          refine py_inc (pc := 65) (len := 3) (j := 3) (n := (-1)) rfl rfl hk rfl (fun lv10 hk11 => ?_)
          have hk11 : lk lv10 [(3, .int (v3 + Int32.ofInt (-1))), (1, .int v1), (4, .int v4)] := hk11
          refine py_inc (pc := 68) (len := 3) (j := 4) (n := 1) rfl rfl hk11 rfl (fun lv12 hk13 => ?_)
          have hk13 : lk lv12 [(4, .int (v4 + Int32.ofInt 1)), (3, .int (v3 + Int32.ofInt (-1))), (1, .int v1)] := hk13
          refine py_its (pc := 71) (pc1 := 42) (lv1 := lv12) (st1 := []) 1 (fun _ _ _ _ => rfl) ?_
          exact ih (v3 + Int32.ofInt (-1)) (v4 + Int32.ofInt 1) lv12 _ hS ⟨lk_find hk13 rfl, lk_find hk13 rfl, lk_find hk13 rfl, trivial⟩ h
        | false =>
          have h := cd_f hb9 h
          refine py_if (pc := 59) (len := 3) false rfl hb9 ?_
          refine py_il (pc := 62) (len := 2) (j := 4) rfl hk rfl ?_
          have h := Option.some.inj h
          subst h
          exact py_ir (pc := 64) (len := 1) (ty := .int) rfl rfl rfl hS
noncomputable def fn_X_drawSlip (a1 : Int32) (hp : px_H) : Option (Int32 × px_H) :=
  sb (wF hp 0 11 (.int (((gI hp 0 11) * (Int32.ofInt 1103515245)) + (Int16.ofInt 12345).toInt32))) fun h1 =>
  bif px_cmp .le (nm_bc a1) 0 then
    fn_X_drawSlip_L42 a1 h1 fu (Int32.ofInt 0) (Int32.ofInt 0)
  else
    bif decide ((nm_bc a1) = 0) then none else
    fn_X_drawSlip_L42 a1 h1 fu ((nm_us (gI h1 0 11) (Int8.ofInt 16).toInt32) - (nm_us (gI h1 0 11) (Int8.ofInt 16).toInt32) / (nm_bc a1) * (nm_bc a1)) (Int32.ofInt 0)
theorem fx_X_drawSlip {a1 : Int32} {hp : px_H} {res : Int32 × px_H} (hS : oS hp) (h : fn_X_drawSlip a1 hp = some res) : px_C nm_T nm_P mi_X_drawSlip [.ref 0, .int a1] hp (some (.int res.1)) res.2 ∧ oS res.2 := by
  unfold fn_X_drawSlip at h
  refine py_C (M := mm_X_drawSlip) rfl (Nat.le_of_ble_eq_true rfl) ?_
  show px_Y mm_X_drawSlip 0 [(0, .ref 0), (1, .int a1)] [] hp _ _
  refine py_its (pc := 0) (pc1 := 2) (lv1 := [(0, .ref 0), (1, .int a1)]) (st1 := [.ref 0, .ref 0]) 2 (fun _ _ _ _ => rfl) ?_
  refine py_gI (pc := 2) (len := 3) (cs := [0]) rfl rfl rfl List.mem_cons_self hS ?_
  refine py_its (pc := 5) (pc1 := 13) (lv1 := [(0, .ref 0), (1, .int a1)]) (st1 := [.int (((gI hp 0 11) * (Int32.ofInt 1103515245)) + (Int16.ofInt 12345).toInt32), .ref 0]) 4 (fun _ _ _ _ => rfl) ?_
  have h := sb_e h
  refine py_pI (pc := 13) (len := 3) (cs := [0]) rfl rfl rfl List.mem_cons_self hS rfl rfl rfl rfl ?_
  have hS2 : oS (wF hp 0 11 (.int (((gI hp 0 11) * (Int32.ofInt 1103515245)) + (Int16.ofInt 12345).toInt32))) := oS_wI (cs := [0]) (ci := 8) rfl List.mem_cons_self hS
  generalize (wF hp 0 11 (.int (((gI hp 0 11) * (Int32.ofInt 1103515245)) + (Int16.ofInt 12345).toInt32))) = h1 at h hS2 ⊢
  refine py_its (pc := 16) (pc1 := 17) (lv1 := [(0, .ref 0), (1, .int a1)]) (st1 := [.int a1]) 1 (fun _ _ _ _ => rfl) ?_
  refine py_st (pc := 17) (mi := mi_I_bitCount) (N := mm_I_bitCount) rfl rfl rfl (Nat.le_of_ble_eq_true rfl) (Nat.le_of_ble_eq_true rfl) rfl rfl (nm_bc_C a1 h1) ?_
  show px_Y mm_X_drawSlip 20 [(0, .ref 0), (1, .int a1)] [.int (nm_bc a1)] h1 _ _
  refine py_its (pc := 20) (pc1 := 22) (lv1 := [(2, .int (nm_bc a1)), (0, .ref 0), (1, .int a1)]) (st1 := [.int (nm_bc a1)]) 2 (fun _ _ _ _ => rfl) ?_
  cases hb3 : px_cmp .le (nm_bc a1) 0 with
  | true =>
    have h := cd_t hb3 h
    refine py_if (pc := 22) (len := 3) true rfl hb3 ?_
    refine py_its (pc := 37) (pc1 := 42) (lv1 := [(4, .int (Int32.ofInt 0)), (3, .int (Int32.ofInt 0)), (2, .int (nm_bc a1)), (0, .ref 0), (1, .int a1)]) (st1 := []) 4 (fun _ _ _ _ => rfl) ?_
    exact fl_X_drawSlip_L42 fu (Int32.ofInt 0) (Int32.ofInt 0) [(4, .int (Int32.ofInt 0)), (3, .int (Int32.ofInt 0)), (2, .int (nm_bc a1)), (0, .ref 0), (1, .int a1)] _ hS2 ⟨rfl, rfl, rfl, trivial⟩ h
  | false =>
    have h := cd_f hb3 h
    refine py_if (pc := 22) (len := 3) false rfl hb3 ?_
    refine py_its (pc := 25) (pc1 := 26) (lv1 := [(2, .int (nm_bc a1)), (0, .ref 0), (1, .int a1)]) (st1 := [.ref 0]) 1 (fun _ _ _ _ => rfl) ?_
    refine py_gI (pc := 26) (len := 3) (cs := [0]) rfl rfl rfl List.mem_cons_self hS2 ?_
    refine py_its (pc := 29) (pc1 := 33) (lv1 := [(2, .int (nm_bc a1)), (0, .ref 0), (1, .int a1)]) (st1 := [.int (nm_bc a1), .int (nm_us (gI h1 0 11) (Int8.ofInt 16).toInt32)]) 3 (fun _ _ _ _ => rfl) ?_
    obtain ⟨hz4, h⟩ := cd_m h
    refine py_rem (pc := 33) (len := 1) rfl hz4 ?_
    refine py_its (pc := 34) (pc1 := 42) (lv1 := [(4, .int (Int32.ofInt 0)), (3, .int ((nm_us (gI h1 0 11) (Int8.ofInt 16).toInt32) - (nm_us (gI h1 0 11) (Int8.ofInt 16).toInt32) / (nm_bc a1) * (nm_bc a1))), (2, .int (nm_bc a1)), (0, .ref 0), (1, .int a1)]) (st1 := []) 4 (fun _ _ _ _ => rfl) ?_
    exact fl_X_drawSlip_L42 fu ((nm_us (gI h1 0 11) (Int8.ofInt 16).toInt32) - (nm_us (gI h1 0 11) (Int8.ofInt 16).toInt32) / (nm_bc a1) * (nm_bc a1)) (Int32.ofInt 0) [(4, .int (Int32.ofInt 0)), (3, .int ((nm_us (gI h1 0 11) (Int8.ofInt 16).toInt32) - (nm_us (gI h1 0 11) (Int8.ofInt 16).toInt32) / (nm_bc a1) * (nm_bc a1))), (2, .int (nm_bc a1)), (0, .ref 0), (1, .int a1)] _ hS2 ⟨rfl, rfl, rfl, trivial⟩ h
/-! Course_foretell -/
noncomputable def fb_Course_foretell_L25 (v2 : Int32) (v3 : Int32) (rc : Int32 → px_H → Option (px_H)) (v4 : Int32) (hp : px_H) : Option (px_H) :=
  bif px_cmp .ge v4 (gI hp (gR hp 21 1) 3) then
    some hp
  else
    (fn_Course_barredBy v4 v2 v3 hp).bind fun q9 =>
    sb (wF hp 21 11 (.int ((gI hp 21 11) &&& (((gI hp 21 11) &&& q9) ^^^ (Int32.ofInt (-1)))))) fun h14 =>
    bif px_inR v4 7 then
    bif px_cmp .ne (aI h14 (gR h14 (gR h14 21 1) 2) v4.toNatClampNeg) (Int8.ofInt 98).toInt32 then
      bif px_inR v4 7 then
      bif px_cmp .ne (aI h14 (gR h14 (gR h14 21 1) 2) v4.toNatClampNeg) (Int8.ofInt 108).toInt32 then
        rc (v4 + Int32.ofInt 1) h14
      else
        sb (wF h14 21 13 (.int ((gI h14 21 13) ||| ((gI hp 21 11) &&& q9)))) fun h26 =>
        rc (v4 + Int32.ofInt 1) h26
      else none
    else
      sb (wF h14 21 12 (.int ((gI h14 21 12) ||| ((gI hp 21 11) &&& q9)))) fun h30 =>
      rc (v4 + Int32.ofInt 1) h30
    else none
noncomputable def fn_Course_foretell_L25 (v2 : Int32) (v3 : Int32) : Nat → Int32 → px_H → Option (px_H)
  | 0 => fun _ _ => none
  | n + 1 => fb_Course_foretell_L25 v2 v3 (fn_Course_foretell_L25 v2 v3 n)
theorem fl_Course_foretell_L25 {v2 : Int32} {v3 : Int32}  : ∀ (n : Nat) (v4 : Int32) (hp : px_H) (lv : List (Nat × Value)) (res : px_H), oS hp → lk lv [(0, .ref 21), (2, .int v2), (3, .int v3), (4, .int v4)] → fn_Course_foretell_L25 v2 v3 n v4 hp = some res → px_Y mm_Course_foretell 25 lv [] hp none res := by
  intro n
  induction n with
  | zero =>
    intro v4 hp lv res hS hk h
    cases h
  | succ n ih =>
    intro v4 hp lv res hS hk h
    have h : fb_Course_foretell_L25 v2 v3 (fn_Course_foretell_L25 v2 v3 n) v4 hp = some res := h
    unfold fb_Course_foretell_L25 at h
    refine py_il (pc := 25) (len := 2) (j := 4) rfl hk rfl ?_
    refine py_aln (pc := 27) (len := 1) (j := 0) rfl hk rfl ?_
    refine py_gR [14, 22, 54, 58, 62] (pc := 28) (len := 3) (cs := [21]) rfl rfl rfl List.mem_cons_self hS (fun hm7 => ?_)
    refine py_gI (pc := 31) (len := 3) (cs := [14, 22, 54, 58, 62]) rfl rfl rfl hm7 hS ?_
    cases hb8 : px_cmp .ge v4 (gI hp (gR hp 21 1) 3) with
    | true =>
      have h := cd_t hb8 h
      refine py_ic (pc := 34) (len := 3) true rfl hb8 ?_
      have h := Option.some.inj h
      subst h
      exact py_rt (pc := 126) (len := 1) rfl rfl hS
    | false =>
      have h := cd_f hb8 h
      refine py_ic (pc := 34) (len := 3) false rfl hb8 ?_
      refine py_aln (pc := 37) (len := 1) (j := 0) rfl hk rfl ?_
      refine py_gI (pc := 38) (len := 3) (cs := [21]) rfl rfl rfl List.mem_cons_self hS ?_
      refine py_aln (pc := 41) (len := 1) (j := 0) rfl hk rfl ?_
      refine py_il (pc := 42) (len := 2) (j := 4) rfl hk rfl ?_
      refine py_iln (pc := 44) (len := 1) (j := 2) rfl hk rfl ?_
      refine py_iln (pc := 45) (len := 1) (j := 3) rfl hk rfl ?_
      obtain ⟨q9, hq10, h⟩ := bd_e h
      have hC11 := (fx_Course_barredBy hS hq10).1
      refine py_vi (pc := 46) (mi := mi_Course_barredBy) (cs := [21]) (N := mm_Course_barredBy) rfl rfl rfl rfl List.mem_cons_self hS rfl (Nat.le_of_ble_eq_true rfl) (Nat.le_of_ble_eq_true rfl) rfl rfl hC11 ?_
      show px_Y mm_Course_foretell 49 lv [.int q9, .int (gI hp 21 11)] hp _ _
      refine py_its (pc := 49) (pc1 := 50) (lv1 := lv) (st1 := [.int ((gI hp 21 11) &&& q9)]) 1 (fun _ _ _ _ => rfl) ?_
      refine py_sti (pc := 50) (len := 2) (j := 5) rfl rfl hk (fun lv12 hk13 => ?_)
      have hk13 : lk lv12 [(5, .int ((gI hp 21 11) &&& q9)), (0, .ref 21), (2, .int v2), (3, .int v3), (4, .int v4)] := hk13
      refine py_aln (pc := 52) (len := 1) (j := 0) rfl hk13 rfl ?_
      refine py_its (pc := 53) (pc1 := 54) (lv1 := lv12) (st1 := [.ref 21, .ref 21]) 1 (fun _ _ _ _ => rfl) ?_
      refine py_gI (pc := 54) (len := 3) (cs := [21]) rfl rfl rfl List.mem_cons_self hS ?_
      refine py_il (pc := 57) (len := 2) (j := 5) rfl hk13 rfl ?_
      refine py_its (pc := 59) (pc1 := 62) (lv1 := lv12) (st1 := [.int ((gI hp 21 11) &&& (((gI hp 21 11) &&& q9) ^^^ (Int32.ofInt (-1)))), .ref 21]) 3 (fun _ _ _ _ => rfl) ?_
      have h := sb_e h
      refine py_pI (pc := 62) (len := 3) (cs := [21]) rfl rfl rfl List.mem_cons_self hS rfl rfl rfl rfl ?_
      have hS15 : oS (wF hp 21 11 (.int ((gI hp 21 11) &&& (((gI hp 21 11) &&& q9) ^^^ (Int32.ofInt (-1)))))) := oS_wI (cs := [21]) (ci := 1) rfl List.mem_cons_self hS
      generalize (wF hp 21 11 (.int ((gI hp 21 11) &&& (((gI hp 21 11) &&& q9) ^^^ (Int32.ofInt (-1)))))) = h14 at h hS15 ⊢
      refine py_aln (pc := 65) (len := 1) (j := 0) rfl hk13 rfl ?_
      refine py_gR [14, 22, 54, 58, 62] (pc := 66) (len := 3) (cs := [21]) rfl rfl rfl List.mem_cons_self hS15 (fun hm16 => ?_)
      refine py_gR [17, 25, 57, 61, 65] (pc := 69) (len := 3) (cs := [14, 22, 54, 58, 62]) rfl rfl rfl hm16 hS15 (fun hm17 => ?_)
      refine py_il (pc := 72) (len := 2) (j := 4) rfl hk13 rfl ?_
      obtain ⟨hi18, h⟩ := cd_n h
      refine py_ai (pc := 74) (len := 1) (cs := [17, 25, 57, 61, 65]) (t := 2) (n := 7) rfl rfl rfl hi18 hm17 hS15 ?_
      refine py_its (pc := 75) (pc1 := 77) (lv1 := lv12) (st1 := [.int (Int8.ofInt 98).toInt32, .int (aI h14 (gR h14 (gR h14 21 1) 2) v4.toNatClampNeg)]) 1 (fun _ _ _ _ => rfl) ?_
      cases hb19 : px_cmp .ne (aI h14 (gR h14 (gR h14 21 1) 2) v4.toNatClampNeg) (Int8.ofInt 98).toInt32 with
      | true =>
        have h := cd_t hb19 h
        refine py_ic (pc := 77) (len := 3) true rfl hb19 ?_
        refine py_aln (pc := 94) (len := 1) (j := 0) rfl hk13 rfl ?_
        refine py_gR [14, 22, 54, 58, 62] (pc := 95) (len := 3) (cs := [21]) rfl rfl rfl List.mem_cons_self hS15 (fun hm20 => ?_)
        refine py_gR [17, 25, 57, 61, 65] (pc := 98) (len := 3) (cs := [14, 22, 54, 58, 62]) rfl rfl rfl hm20 hS15 (fun hm21 => ?_)
        refine py_il (pc := 101) (len := 2) (j := 4) rfl hk13 rfl ?_
        obtain ⟨hi22, h⟩ := cd_n h
        refine py_ai (pc := 103) (len := 1) (cs := [17, 25, 57, 61, 65]) (t := 2) (n := 7) rfl rfl rfl hi22 hm21 hS15 ?_
        refine py_its (pc := 104) (pc1 := 106) (lv1 := lv12) (st1 := [.int (Int8.ofInt 108).toInt32, .int (aI h14 (gR h14 (gR h14 21 1) 2) v4.toNatClampNeg)]) 1 (fun _ _ _ _ => rfl) ?_
        cases hb23 : px_cmp .ne (aI h14 (gR h14 (gR h14 21 1) 2) v4.toNatClampNeg) (Int8.ofInt 108).toInt32 with
        | true =>
          have h := cd_t hb23 h
          refine py_ic (pc := 106) (len := 3) true rfl hb23 ?_
          refine py_inc (pc := 120) (len := 3) (j := 4) (n := 1) rfl rfl hk13 rfl (fun lv24 hk25 => ?_)
          have hk25 : lk lv24 [(4, .int (v4 + Int32.ofInt 1)), (5, .int ((gI hp 21 11) &&& q9)), (0, .ref 21), (2, .int v2), (3, .int v3)] := hk25
          refine py_its (pc := 123) (pc1 := 25) (lv1 := lv24) (st1 := []) 1 (fun _ _ _ _ => rfl) ?_
          exact ih (v4 + Int32.ofInt 1) h14 lv24 _ hS15 ⟨lk_find hk25 rfl, lk_find hk25 rfl, lk_find hk25 rfl, lk_find hk25 rfl, trivial⟩ h
        | false =>
          have h := cd_f hb23 h
          refine py_ic (pc := 106) (len := 3) false rfl hb23 ?_
          refine py_aln (pc := 109) (len := 1) (j := 0) rfl hk13 rfl ?_
          refine py_its (pc := 110) (pc1 := 111) (lv1 := lv12) (st1 := [.ref 21, .ref 21]) 1 (fun _ _ _ _ => rfl) ?_
          refine py_gI (pc := 111) (len := 3) (cs := [21]) rfl rfl rfl List.mem_cons_self hS15 ?_
          refine py_il (pc := 114) (len := 2) (j := 5) rfl hk13 rfl ?_
          refine py_its (pc := 116) (pc1 := 117) (lv1 := lv12) (st1 := [.int ((gI h14 21 13) ||| ((gI hp 21 11) &&& q9)), .ref 21]) 1 (fun _ _ _ _ => rfl) ?_
          have h := sb_e h
          refine py_pI (pc := 117) (len := 3) (cs := [21]) rfl rfl rfl List.mem_cons_self hS15 rfl rfl rfl rfl ?_
          have hS27 : oS (wF h14 21 13 (.int ((gI h14 21 13) ||| ((gI hp 21 11) &&& q9)))) := oS_wI (cs := [21]) (ci := 1) rfl List.mem_cons_self hS15
          generalize (wF h14 21 13 (.int ((gI h14 21 13) ||| ((gI hp 21 11) &&& q9)))) = h26 at h hS27 ⊢
          refine py_inc (pc := 120) (len := 3) (j := 4) (n := 1) rfl rfl hk13 rfl (fun lv28 hk29 => ?_)
          have hk29 : lk lv28 [(4, .int (v4 + Int32.ofInt 1)), (5, .int ((gI hp 21 11) &&& q9)), (0, .ref 21), (2, .int v2), (3, .int v3)] := hk29
          refine py_its (pc := 123) (pc1 := 25) (lv1 := lv28) (st1 := []) 1 (fun _ _ _ _ => rfl) ?_
          exact ih (v4 + Int32.ofInt 1) h26 lv28 _ hS27 ⟨lk_find hk29 rfl, lk_find hk29 rfl, lk_find hk29 rfl, lk_find hk29 rfl, trivial⟩ h
      | false =>
        have h := cd_f hb19 h
        refine py_ic (pc := 77) (len := 3) false rfl hb19 ?_
        refine py_aln (pc := 80) (len := 1) (j := 0) rfl hk13 rfl ?_
        refine py_its (pc := 81) (pc1 := 82) (lv1 := lv12) (st1 := [.ref 21, .ref 21]) 1 (fun _ _ _ _ => rfl) ?_
        refine py_gI (pc := 82) (len := 3) (cs := [21]) rfl rfl rfl List.mem_cons_self hS15 ?_
        refine py_il (pc := 85) (len := 2) (j := 5) rfl hk13 rfl ?_
        refine py_its (pc := 87) (pc1 := 88) (lv1 := lv12) (st1 := [.int ((gI h14 21 12) ||| ((gI hp 21 11) &&& q9)), .ref 21]) 1 (fun _ _ _ _ => rfl) ?_
        have h := sb_e h
        refine py_pI (pc := 88) (len := 3) (cs := [21]) rfl rfl rfl List.mem_cons_self hS15 rfl rfl rfl rfl ?_
        have hS31 : oS (wF h14 21 12 (.int ((gI h14 21 12) ||| ((gI hp 21 11) &&& q9)))) := oS_wI (cs := [21]) (ci := 1) rfl List.mem_cons_self hS15
        generalize (wF h14 21 12 (.int ((gI h14 21 12) ||| ((gI hp 21 11) &&& q9)))) = h30 at h hS31 ⊢
        refine py_its (pc := 91) (pc1 := 120) (lv1 := lv12) (st1 := []) 1 (fun _ _ _ _ => rfl) ?_
        refine py_inc (pc := 120) (len := 3) (j := 4) (n := 1) rfl rfl hk13 rfl (fun lv32 hk33 => ?_)
        have hk33 : lk lv32 [(4, .int (v4 + Int32.ofInt 1)), (5, .int ((gI hp 21 11) &&& q9)), (0, .ref 21), (2, .int v2), (3, .int v3)] := hk33
        refine py_its (pc := 123) (pc1 := 25) (lv1 := lv32) (st1 := []) 1 (fun _ _ _ _ => rfl) ?_
        exact ih (v4 + Int32.ofInt 1) h30 lv32 _ hS31 ⟨lk_find hk33 rfl, lk_find hk33 rfl, lk_find hk33 rfl, lk_find hk33 rfl, trivial⟩ h
noncomputable def fn_Course_foretell (a1 : Int32) (a2 : Int32) (a3 : Int32) (hp : px_H) : Option (px_H) :=
  sb (wF hp 21 11 (.int (a1 &&& ((gI hp 21 7) ^^^ (Int32.ofInt (-1)))))) fun h1 =>
  sb (wF h1 21 12 (.int (Int32.ofInt 0))) fun h3 =>
  sb (wF h3 21 13 (.int (Int32.ofInt 0))) fun h5 =>
  fn_Course_foretell_L25 a2 a3 fu (Int32.ofInt 0) h5
theorem fx_Course_foretell {a1 : Int32} {a2 : Int32} {a3 : Int32} {hp : px_H} {res : px_H} (hS : oS hp) (h : fn_Course_foretell a1 a2 a3 hp = some res) : px_C nm_T nm_P mi_Course_foretell [.ref 21, .int a1, .int a2, .int a3] hp none res ∧ oS res := by
  unfold fn_Course_foretell at h
  refine py_C (M := mm_Course_foretell) rfl (Nat.le_of_ble_eq_true rfl) ?_
  show px_Y mm_Course_foretell 0 [(0, .ref 21), (1, .int a1), (2, .int a2), (3, .int a3)] [] hp _ _
  refine py_its (pc := 0) (pc1 := 3) (lv1 := [(0, .ref 21), (1, .int a1), (2, .int a2), (3, .int a3)]) (st1 := [.ref 21, .int a1, .ref 21]) 3 (fun _ _ _ _ => rfl) ?_
  refine py_gI (pc := 3) (len := 3) (cs := [21]) rfl rfl rfl List.mem_cons_self hS ?_
  refine py_its (pc := 6) (pc1 := 9) (lv1 := [(0, .ref 21), (1, .int a1), (2, .int a2), (3, .int a3)]) (st1 := [.int (a1 &&& ((gI hp 21 7) ^^^ (Int32.ofInt (-1)))), .ref 21]) 3 (fun _ _ _ _ => rfl) ?_
  have h := sb_e h
  refine py_pI (pc := 9) (len := 3) (cs := [21]) rfl rfl rfl List.mem_cons_self hS rfl rfl rfl rfl ?_
  have hS2 : oS (wF hp 21 11 (.int (a1 &&& ((gI hp 21 7) ^^^ (Int32.ofInt (-1)))))) := oS_wI (cs := [21]) (ci := 1) rfl List.mem_cons_self hS
  generalize (wF hp 21 11 (.int (a1 &&& ((gI hp 21 7) ^^^ (Int32.ofInt (-1)))))) = h1 at h hS2 ⊢
  refine py_its (pc := 12) (pc1 := 14) (lv1 := [(0, .ref 21), (1, .int a1), (2, .int a2), (3, .int a3)]) (st1 := [.int (Int32.ofInt 0), .ref 21]) 2 (fun _ _ _ _ => rfl) ?_
  have h := sb_e h
  refine py_pI (pc := 14) (len := 3) (cs := [21]) rfl rfl rfl List.mem_cons_self hS2 rfl rfl rfl rfl ?_
  have hS4 : oS (wF h1 21 12 (.int (Int32.ofInt 0))) := oS_wI (cs := [21]) (ci := 1) rfl List.mem_cons_self hS2
  generalize (wF h1 21 12 (.int (Int32.ofInt 0))) = h3 at h hS4 ⊢
  refine py_its (pc := 17) (pc1 := 19) (lv1 := [(0, .ref 21), (1, .int a1), (2, .int a2), (3, .int a3)]) (st1 := [.int (Int32.ofInt 0), .ref 21]) 2 (fun _ _ _ _ => rfl) ?_
  have h := sb_e h
  refine py_pI (pc := 19) (len := 3) (cs := [21]) rfl rfl rfl List.mem_cons_self hS4 rfl rfl rfl rfl ?_
  have hS6 : oS (wF h3 21 13 (.int (Int32.ofInt 0))) := oS_wI (cs := [21]) (ci := 1) rfl List.mem_cons_self hS4
  generalize (wF h3 21 13 (.int (Int32.ofInt 0))) = h5 at h hS6 ⊢
  refine py_its (pc := 22) (pc1 := 25) (lv1 := [(4, .int (Int32.ofInt 0)), (0, .ref 21), (1, .int a1), (2, .int a2), (3, .int a3)]) (st1 := []) 2 (fun _ _ _ _ => rfl) ?_
  exact fl_Course_foretell_L25 fu (Int32.ofInt 0) h5 [(4, .int (Int32.ofInt 0)), (0, .ref 21), (1, .int a1), (2, .int a2), (3, .int a3)] _ hS6 ⟨rfl, rfl, rfl, rfl, trivial⟩ h
/-! Chest_takeOut -/
noncomputable def fn_Chest_takeOut (c0 : Nat) (a2 : Int32) (hp : px_H) : Option (Int32 × px_H) :=
  sb (wF hp c0 0 (.long ((gL hp c0 0) &&& ((sx_lsl (sx_lsl (Int64.ofNat 1) a2) ((Int8.ofInt 10).toInt32 * (gI hp 21 5))) ^^^ (Int64.ofInt (-1)))))) fun h1 =>
  bif px_cmp .eq (((gI h1 21 11) >>> (a2 &&& 31)) &&& (Int32.ofInt 1)) 0 then
    bif px_cmp .eq (((gI h1 21 12) >>> (a2 &&& 31)) &&& (Int32.ofInt 1)) 0 then
      bif px_cmp .eq (((gI h1 21 13) >>> (a2 &&& 31)) &&& (Int32.ofInt 1)) 0 then
        some ((Int32.ofInt 0), h1)
      else
        sb (wF h1 c0 0 (.long ((gL h1 c0 0) ||| (sx_lsl (sx_lsl (Int64.ofNat 1) a2) ((Int8.ofInt 20).toInt32 + ((Int8.ofInt 10).toInt32 * (gI hp 21 5))))))) fun h6 =>
        some ((Int32.ofInt 0), h6)
    else
      sb (wF h1 c0 0 (.long ((gL h1 c0 0) ||| (sx_lsl (sx_lsl (Int64.ofNat 1) a2) (Int8.ofInt 40).toInt32)))) fun h8 =>
      some ((Int32.ofInt 0), h8)
  else
    sb (wF h1 c0 0 (.long ((gL h1 c0 0) ||| (sx_lsl (sx_lsl (Int64.ofNat 1) a2) (Int8.ofInt 50).toInt32)))) fun h10 =>
    sb (wF h10 c0 1 (.int (((gI h10 c0 1) &&& (((Int8.ofInt 7).toInt32 <<< (((Int32.ofInt 3) * a2) &&& 31)) ^^^ (Int32.ofInt (-1)))) ||| (((gI h10 21 4) + (Int32.ofInt 1)) <<< (((Int32.ofInt 3) * a2) &&& 31))))) fun h12 =>
    some ((Int32.ofInt 1), h12)
theorem fx_Chest_takeOut {c0 : Nat} {a2 : Int32} {hp : px_H} {res : Int32 × px_H} (hc0 : c0 ∈ [19, 20, 47, 66, 67, 68]) (hS : oS hp) (h : fn_Chest_takeOut c0 a2 hp = some res) : px_C nm_T nm_P mi_Chest_takeOut [.ref c0, .ref 21, .int a2] hp (some (.int res.1)) res.2 ∧ oS res.2 := by
  unfold fn_Chest_takeOut at h
  refine py_C (M := mm_Chest_takeOut) rfl (Nat.le_of_ble_eq_true rfl) ?_
  show px_Y mm_Chest_takeOut 0 [(0, .ref c0), (1, .ref 21), (2, .int a2)] [] hp _ _
  refine py_its (pc := 0) (pc1 := 7) (lv1 := [(3, .long (sx_lsl (Int64.ofNat 1) a2)), (0, .ref c0), (1, .ref 21), (2, .int a2)]) (st1 := [.ref 21, .int (Int8.ofInt 10).toInt32]) 6 (fun _ _ _ _ => rfl) ?_
  refine py_gI (pc := 7) (len := 3) (cs := [21]) rfl rfl rfl List.mem_cons_self hS ?_
  refine py_its (pc := 10) (pc1 := 15) (lv1 := [(5, .int ((Int8.ofInt 10).toInt32 * (gI hp 21 5))), (3, .long (sx_lsl (Int64.ofNat 1) a2)), (0, .ref c0), (1, .ref 21), (2, .int a2)]) (st1 := [.ref c0, .ref c0]) 4 (fun _ _ _ _ => rfl) ?_
  refine py_gL (pc := 15) (len := 3) (cs := [19, 20, 47, 66, 67, 68]) rfl rfl rfl hc0 hS ?_
  refine py_its (pc := 18) (pc1 := 27) (lv1 := [(5, .int ((Int8.ofInt 10).toInt32 * (gI hp 21 5))), (3, .long (sx_lsl (Int64.ofNat 1) a2)), (0, .ref c0), (1, .ref 21), (2, .int a2)]) (st1 := [.long ((gL hp c0 0) &&& ((sx_lsl (sx_lsl (Int64.ofNat 1) a2) ((Int8.ofInt 10).toInt32 * (gI hp 21 5))) ^^^ (Int64.ofInt (-1)))), .ref c0]) 6 (fun _ _ _ _ => rfl) ?_
  have h := sb_e h
  refine py_pL (pc := 27) (len := 3) (cs := [19, 20, 47, 66, 67, 68]) rfl rfl rfl hc0 hS rfl rfl rfl rfl ?_
  have hS2 : oS (wF hp c0 0 (.long ((gL hp c0 0) &&& ((sx_lsl (sx_lsl (Int64.ofNat 1) a2) ((Int8.ofInt 10).toInt32 * (gI hp 21 5))) ^^^ (Int64.ofInt (-1)))))) := oS_wL (cs := [19, 20, 47, 66, 67, 68]) (ci := 0) rfl hc0 hS
  generalize (wF hp c0 0 (.long ((gL hp c0 0) &&& ((sx_lsl (sx_lsl (Int64.ofNat 1) a2) ((Int8.ofInt 10).toInt32 * (gI hp 21 5))) ^^^ (Int64.ofInt (-1)))))) = h1 at h hS2 ⊢
  refine py_its (pc := 30) (pc1 := 31) (lv1 := [(5, .int ((Int8.ofInt 10).toInt32 * (gI hp 21 5))), (3, .long (sx_lsl (Int64.ofNat 1) a2)), (0, .ref c0), (1, .ref 21), (2, .int a2)]) (st1 := [.ref 21]) 1 (fun _ _ _ _ => rfl) ?_
  refine py_gI (pc := 31) (len := 3) (cs := [21]) rfl rfl rfl List.mem_cons_self hS2 ?_
  refine py_its (pc := 34) (pc1 := 38) (lv1 := [(5, .int ((Int8.ofInt 10).toInt32 * (gI hp 21 5))), (3, .long (sx_lsl (Int64.ofNat 1) a2)), (0, .ref c0), (1, .ref 21), (2, .int a2)]) (st1 := [.int (((gI h1 21 11) >>> (a2 &&& 31)) &&& (Int32.ofInt 1))]) 4 (fun _ _ _ _ => rfl) ?_
  cases hb3 : px_cmp .eq (((gI h1 21 11) >>> (a2 &&& 31)) &&& (Int32.ofInt 1)) 0 with
  | true =>
    have h := cd_t hb3 h
    refine py_if (pc := 38) (len := 3) true rfl hb3 ?_
    refine py_its (pc := 84) (pc1 := 85) (lv1 := [(5, .int ((Int8.ofInt 10).toInt32 * (gI hp 21 5))), (3, .long (sx_lsl (Int64.ofNat 1) a2)), (0, .ref c0), (1, .ref 21), (2, .int a2)]) (st1 := [.ref 21]) 1 (fun _ _ _ _ => rfl) ?_
    refine py_gI (pc := 85) (len := 3) (cs := [21]) rfl rfl rfl List.mem_cons_self hS2 ?_
    refine py_its (pc := 88) (pc1 := 92) (lv1 := [(5, .int ((Int8.ofInt 10).toInt32 * (gI hp 21 5))), (3, .long (sx_lsl (Int64.ofNat 1) a2)), (0, .ref c0), (1, .ref 21), (2, .int a2)]) (st1 := [.int (((gI h1 21 12) >>> (a2 &&& 31)) &&& (Int32.ofInt 1))]) 4 (fun _ _ _ _ => rfl) ?_
    cases hb4 : px_cmp .eq (((gI h1 21 12) >>> (a2 &&& 31)) &&& (Int32.ofInt 1)) 0 with
    | true =>
      have h := cd_t hb4 h
      refine py_if (pc := 92) (len := 3) true rfl hb4 ?_
      refine py_its (pc := 111) (pc1 := 112) (lv1 := [(5, .int ((Int8.ofInt 10).toInt32 * (gI hp 21 5))), (3, .long (sx_lsl (Int64.ofNat 1) a2)), (0, .ref c0), (1, .ref 21), (2, .int a2)]) (st1 := [.ref 21]) 1 (fun _ _ _ _ => rfl) ?_
      refine py_gI (pc := 112) (len := 3) (cs := [21]) rfl rfl rfl List.mem_cons_self hS2 ?_
      refine py_its (pc := 115) (pc1 := 119) (lv1 := [(5, .int ((Int8.ofInt 10).toInt32 * (gI hp 21 5))), (3, .long (sx_lsl (Int64.ofNat 1) a2)), (0, .ref c0), (1, .ref 21), (2, .int a2)]) (st1 := [.int (((gI h1 21 13) >>> (a2 &&& 31)) &&& (Int32.ofInt 1))]) 4 (fun _ _ _ _ => rfl) ?_
      cases hb5 : px_cmp .eq (((gI h1 21 13) >>> (a2 &&& 31)) &&& (Int32.ofInt 1)) 0 with
      | true =>
        have h := cd_t hb5 h
        refine py_if (pc := 119) (len := 3) true rfl hb5 ?_
        refine py_its (pc := 138) (pc1 := 139) (lv1 := [(5, .int ((Int8.ofInt 10).toInt32 * (gI hp 21 5))), (3, .long (sx_lsl (Int64.ofNat 1) a2)), (0, .ref c0), (1, .ref 21), (2, .int a2)]) (st1 := [.int (Int32.ofInt 0)]) 1 (fun _ _ _ _ => rfl) ?_
        have h := Option.some.inj h
        subst h
        exact py_ir (pc := 139) (len := 1) (ty := .boolean) rfl rfl (by decide) hS2
      | false =>
        have h := cd_f hb5 h
        refine py_if (pc := 119) (len := 3) false rfl hb5 ?_
        refine py_its (pc := 122) (pc1 := 124) (lv1 := [(5, .int ((Int8.ofInt 10).toInt32 * (gI hp 21 5))), (3, .long (sx_lsl (Int64.ofNat 1) a2)), (0, .ref c0), (1, .ref 21), (2, .int a2)]) (st1 := [.ref c0, .ref c0]) 2 (fun _ _ _ _ => rfl) ?_
        refine py_gL (pc := 124) (len := 3) (cs := [19, 20, 47, 66, 67, 68]) rfl rfl rfl hc0 hS2 ?_
        refine py_its (pc := 127) (pc1 := 135) (lv1 := [(5, .int ((Int8.ofInt 10).toInt32 * (gI hp 21 5))), (3, .long (sx_lsl (Int64.ofNat 1) a2)), (0, .ref c0), (1, .ref 21), (2, .int a2)]) (st1 := [.long ((gL h1 c0 0) ||| (sx_lsl (sx_lsl (Int64.ofNat 1) a2) ((Int8.ofInt 20).toInt32 + ((Int8.ofInt 10).toInt32 * (gI hp 21 5))))), .ref c0]) 6 (fun _ _ _ _ => rfl) ?_
        have h := sb_e h
        refine py_pL (pc := 135) (len := 3) (cs := [19, 20, 47, 66, 67, 68]) rfl rfl rfl hc0 hS2 rfl rfl rfl rfl ?_
        have hS7 : oS (wF h1 c0 0 (.long ((gL h1 c0 0) ||| (sx_lsl (sx_lsl (Int64.ofNat 1) a2) ((Int8.ofInt 20).toInt32 + ((Int8.ofInt 10).toInt32 * (gI hp 21 5))))))) := oS_wL (cs := [19, 20, 47, 66, 67, 68]) (ci := 0) rfl hc0 hS2
        generalize (wF h1 c0 0 (.long ((gL h1 c0 0) ||| (sx_lsl (sx_lsl (Int64.ofNat 1) a2) ((Int8.ofInt 20).toInt32 + ((Int8.ofInt 10).toInt32 * (gI hp 21 5))))))) = h6 at h hS7 ⊢
        refine py_its (pc := 138) (pc1 := 139) (lv1 := [(5, .int ((Int8.ofInt 10).toInt32 * (gI hp 21 5))), (3, .long (sx_lsl (Int64.ofNat 1) a2)), (0, .ref c0), (1, .ref 21), (2, .int a2)]) (st1 := [.int (Int32.ofInt 0)]) 1 (fun _ _ _ _ => rfl) ?_
        have h := Option.some.inj h
        subst h
        exact py_ir (pc := 139) (len := 1) (ty := .boolean) rfl rfl (by decide) hS7
    | false =>
      have h := cd_f hb4 h
      refine py_if (pc := 92) (len := 3) false rfl hb4 ?_
      refine py_its (pc := 95) (pc1 := 97) (lv1 := [(5, .int ((Int8.ofInt 10).toInt32 * (gI hp 21 5))), (3, .long (sx_lsl (Int64.ofNat 1) a2)), (0, .ref c0), (1, .ref 21), (2, .int a2)]) (st1 := [.ref c0, .ref c0]) 2 (fun _ _ _ _ => rfl) ?_
      refine py_gL (pc := 97) (len := 3) (cs := [19, 20, 47, 66, 67, 68]) rfl rfl rfl hc0 hS2 ?_
      refine py_its (pc := 100) (pc1 := 105) (lv1 := [(5, .int ((Int8.ofInt 10).toInt32 * (gI hp 21 5))), (3, .long (sx_lsl (Int64.ofNat 1) a2)), (0, .ref c0), (1, .ref 21), (2, .int a2)]) (st1 := [.long ((gL h1 c0 0) ||| (sx_lsl (sx_lsl (Int64.ofNat 1) a2) (Int8.ofInt 40).toInt32)), .ref c0]) 4 (fun _ _ _ _ => rfl) ?_
      have h := sb_e h
      refine py_pL (pc := 105) (len := 3) (cs := [19, 20, 47, 66, 67, 68]) rfl rfl rfl hc0 hS2 rfl rfl rfl rfl ?_
      have hS9 : oS (wF h1 c0 0 (.long ((gL h1 c0 0) ||| (sx_lsl (sx_lsl (Int64.ofNat 1) a2) (Int8.ofInt 40).toInt32)))) := oS_wL (cs := [19, 20, 47, 66, 67, 68]) (ci := 0) rfl hc0 hS2
      generalize (wF h1 c0 0 (.long ((gL h1 c0 0) ||| (sx_lsl (sx_lsl (Int64.ofNat 1) a2) (Int8.ofInt 40).toInt32)))) = h8 at h hS9 ⊢
      refine py_its (pc := 108) (pc1 := 139) (lv1 := [(5, .int ((Int8.ofInt 10).toInt32 * (gI hp 21 5))), (3, .long (sx_lsl (Int64.ofNat 1) a2)), (0, .ref c0), (1, .ref 21), (2, .int a2)]) (st1 := [.int (Int32.ofInt 0)]) 2 (fun _ _ _ _ => rfl) ?_
      have h := Option.some.inj h
      subst h
      exact py_ir (pc := 139) (len := 1) (ty := .boolean) rfl rfl (by decide) hS9
  | false =>
    have h := cd_f hb3 h
    refine py_if (pc := 38) (len := 3) false rfl hb3 ?_
    refine py_its (pc := 41) (pc1 := 43) (lv1 := [(5, .int ((Int8.ofInt 10).toInt32 * (gI hp 21 5))), (3, .long (sx_lsl (Int64.ofNat 1) a2)), (0, .ref c0), (1, .ref 21), (2, .int a2)]) (st1 := [.ref c0, .ref c0]) 2 (fun _ _ _ _ => rfl) ?_
    refine py_gL (pc := 43) (len := 3) (cs := [19, 20, 47, 66, 67, 68]) rfl rfl rfl hc0 hS2 ?_
    refine py_its (pc := 46) (pc1 := 51) (lv1 := [(5, .int ((Int8.ofInt 10).toInt32 * (gI hp 21 5))), (3, .long (sx_lsl (Int64.ofNat 1) a2)), (0, .ref c0), (1, .ref 21), (2, .int a2)]) (st1 := [.long ((gL h1 c0 0) ||| (sx_lsl (sx_lsl (Int64.ofNat 1) a2) (Int8.ofInt 50).toInt32)), .ref c0]) 4 (fun _ _ _ _ => rfl) ?_
    have h := sb_e h
    refine py_pL (pc := 51) (len := 3) (cs := [19, 20, 47, 66, 67, 68]) rfl rfl rfl hc0 hS2 rfl rfl rfl rfl ?_
    have hS11 : oS (wF h1 c0 0 (.long ((gL h1 c0 0) ||| (sx_lsl (sx_lsl (Int64.ofNat 1) a2) (Int8.ofInt 50).toInt32)))) := oS_wL (cs := [19, 20, 47, 66, 67, 68]) (ci := 0) rfl hc0 hS2
    generalize (wF h1 c0 0 (.long ((gL h1 c0 0) ||| (sx_lsl (sx_lsl (Int64.ofNat 1) a2) (Int8.ofInt 50).toInt32)))) = h10 at h hS11 ⊢
    refine py_its (pc := 54) (pc1 := 56) (lv1 := [(5, .int ((Int8.ofInt 10).toInt32 * (gI hp 21 5))), (3, .long (sx_lsl (Int64.ofNat 1) a2)), (0, .ref c0), (1, .ref 21), (2, .int a2)]) (st1 := [.ref c0, .ref c0]) 2 (fun _ _ _ _ => rfl) ?_
    refine py_gI (pc := 56) (len := 3) (cs := [19, 20, 47, 66, 67, 68]) rfl rfl rfl hc0 hS11 ?_
    refine py_its (pc := 59) (pc1 := 69) (lv1 := [(5, .int ((Int8.ofInt 10).toInt32 * (gI hp 21 5))), (3, .long (sx_lsl (Int64.ofNat 1) a2)), (0, .ref c0), (1, .ref 21), (2, .int a2)]) (st1 := [.ref 21, .int ((gI h10 c0 1) &&& (((Int8.ofInt 7).toInt32 <<< (((Int32.ofInt 3) * a2) &&& 31)) ^^^ (Int32.ofInt (-1)))), .ref c0]) 9 (fun _ _ _ _ => rfl) ?_
    refine py_gI (pc := 69) (len := 3) (cs := [21]) rfl rfl rfl List.mem_cons_self hS11 ?_
    refine py_its (pc := 72) (pc1 := 79) (lv1 := [(5, .int ((Int8.ofInt 10).toInt32 * (gI hp 21 5))), (3, .long (sx_lsl (Int64.ofNat 1) a2)), (0, .ref c0), (1, .ref 21), (2, .int a2)]) (st1 := [.int (((gI h10 c0 1) &&& (((Int8.ofInt 7).toInt32 <<< (((Int32.ofInt 3) * a2) &&& 31)) ^^^ (Int32.ofInt (-1)))) ||| (((gI h10 21 4) + (Int32.ofInt 1)) <<< (((Int32.ofInt 3) * a2) &&& 31))), .ref c0]) 7 (fun _ _ _ _ => rfl) ?_
    have h := sb_e h
    refine py_pI (pc := 79) (len := 3) (cs := [19, 20, 47, 66, 67, 68]) rfl rfl rfl hc0 hS11 rfl rfl rfl rfl ?_
    have hS13 : oS (wF h10 c0 1 (.int (((gI h10 c0 1) &&& (((Int8.ofInt 7).toInt32 <<< (((Int32.ofInt 3) * a2) &&& 31)) ^^^ (Int32.ofInt (-1)))) ||| (((gI h10 21 4) + (Int32.ofInt 1)) <<< (((Int32.ofInt 3) * a2) &&& 31))))) := oS_wI (cs := [19, 20, 47, 66, 67, 68]) (ci := 0) rfl hc0 hS11
    generalize (wF h10 c0 1 (.int (((gI h10 c0 1) &&& (((Int8.ofInt 7).toInt32 <<< (((Int32.ofInt 3) * a2) &&& 31)) ^^^ (Int32.ofInt (-1)))) ||| (((gI h10 21 4) + (Int32.ofInt 1)) <<< (((Int32.ofInt 3) * a2) &&& 31))))) = h12 at h hS13 ⊢
    refine py_its (pc := 82) (pc1 := 83) (lv1 := [(5, .int ((Int8.ofInt 10).toInt32 * (gI hp 21 5))), (3, .long (sx_lsl (Int64.ofNat 1) a2)), (0, .ref c0), (1, .ref 21), (2, .int a2)]) (st1 := [.int (Int32.ofInt 1)]) 1 (fun _ _ _ _ => rfl) ?_
    have h := Option.some.inj h
    subst h
    exact py_ir (pc := 83) (len := 1) (ty := .boolean) rfl rfl (by decide) hS13
/-! Row_tell -/
noncomputable def fn_Row_tell (a1 : Int64) (hp : px_H) : Option (px_H) :=
  bif px_cmp .ge (gI hp 48 1) (Int8.ofInt 13).toInt32 then
    some hp
  else
    bif px_inR (gI hp 48 1) 13 then
    sb (uL hp 49 (gI hp 48 1).toNatClampNeg a1) fun h3 =>
    sb (wF h3 48 1 (.int ((gI h3 48 1) + (Int32.ofInt 1)))) fun h5 =>
    some h5
    else none
theorem fx_Row_tell {a1 : Int64} {hp : px_H} {res : px_H} (hS : oS hp) (h : fn_Row_tell a1 hp = some res) : px_C nm_T nm_P mi_Row_tell [.ref 48, .long a1] hp none res ∧ oS res := by
  unfold fn_Row_tell at h
  refine py_C (M := mm_Row_tell) rfl (Nat.le_of_ble_eq_true rfl) ?_
  show px_Y mm_Row_tell 0 [(0, .ref 48), (1, .long a1)] [] hp _ _
  refine py_its (pc := 0) (pc1 := 1) (lv1 := [(0, .ref 48), (1, .long a1)]) (st1 := [.ref 48]) 1 (fun _ _ _ _ => rfl) ?_
  refine py_gI (pc := 1) (len := 3) (cs := [48]) rfl rfl rfl List.mem_cons_self hS ?_
  refine py_its (pc := 4) (pc1 := 6) (lv1 := [(0, .ref 48), (1, .long a1)]) (st1 := [.int (Int8.ofInt 13).toInt32, .int (gI hp 48 1)]) 1 (fun _ _ _ _ => rfl) ?_
  cases hb1 : px_cmp .ge (gI hp 48 1) (Int8.ofInt 13).toInt32 with
  | true =>
    have h := cd_t hb1 h
    refine py_ic (pc := 6) (len := 3) true rfl hb1 ?_
    have h := Option.some.inj h
    subst h
    exact py_rt (pc := 29) (len := 1) rfl rfl hS
  | false =>
    have h := cd_f hb1 h
    refine py_ic (pc := 6) (len := 3) false rfl hb1 ?_
    refine py_its (pc := 9) (pc1 := 10) (lv1 := [(0, .ref 48), (1, .long a1)]) (st1 := [.ref 48]) 1 (fun _ _ _ _ => rfl) ?_
    refine py_g1 49 (pc := 10) (len := 3) (cs := [48]) rfl rfl rfl List.mem_cons_self hS ?_
    refine py_its (pc := 13) (pc1 := 14) (lv1 := [(0, .ref 48), (1, .long a1)]) (st1 := [.ref 48, .ref 49]) 1 (fun _ _ _ _ => rfl) ?_
    refine py_gI (pc := 14) (len := 3) (cs := [48]) rfl rfl rfl List.mem_cons_self hS ?_
    refine py_its (pc := 17) (pc1 := 18) (lv1 := [(0, .ref 48), (1, .long a1)]) (st1 := [.long a1, .int (gI hp 48 1), .ref 49]) 1 (fun _ _ _ _ => rfl) ?_
    obtain ⟨hi2, h⟩ := cd_n h
    have h := sb_e h
    refine py_sl (pc := 18) (len := 1) (cs := [49]) (t := 5) (n := 13) rfl rfl rfl hi2 List.mem_cons_self hS ?_
    have hS4 : oS (uL hp 49 (gI hp 48 1).toNatClampNeg a1) := oS_uL (cs := [49]) (t := 5) (n := 13) rfl List.mem_cons_self hS
    generalize (uL hp 49 (gI hp 48 1).toNatClampNeg a1) = h3 at h hS4 ⊢
    refine py_its (pc := 19) (pc1 := 21) (lv1 := [(0, .ref 48), (1, .long a1)]) (st1 := [.ref 48, .ref 48]) 2 (fun _ _ _ _ => rfl) ?_
    refine py_gI (pc := 21) (len := 3) (cs := [48]) rfl rfl rfl List.mem_cons_self hS4 ?_
    refine py_its (pc := 24) (pc1 := 26) (lv1 := [(0, .ref 48), (1, .long a1)]) (st1 := [.int ((gI h3 48 1) + (Int32.ofInt 1)), .ref 48]) 2 (fun _ _ _ _ => rfl) ?_
    have h := sb_e h
    refine py_pI (pc := 26) (len := 3) (cs := [48]) rfl rfl rfl List.mem_cons_self hS4 rfl rfl rfl rfl ?_
    have hS6 : oS (wF h3 48 1 (.int ((gI h3 48 1) + (Int32.ofInt 1)))) := oS_wI (cs := [48]) (ci := 2) rfl List.mem_cons_self hS4
    generalize (wF h3 48 1 (.int ((gI h3 48 1) + (Int32.ofInt 1)))) = h5 at h hS6 ⊢
    have h := Option.some.inj h
    subst h
    exact py_rt (pc := 29) (len := 1) rfl rfl hS6
/-! Chest_close -/
noncomputable def fn_Chest_close (c0 : Nat) (hp : px_H) : Option (px_H) :=
  (fn_Chest_part c0 (gI hp 21 5) hp).bind fun q1 =>
  (fn_Chest_part c0 (Int32.ofInt 4) hp).bind fun q4 =>
  (fn_Chest_setPart c0 (gI hp 21 5) (q1 ||| q4) hp).bind fun q7 =>
  (fn_Chest_setPart c0 (Int32.ofInt 4) (Int32.ofInt 0) q7).bind fun q11 =>
  some q11
theorem fx_Chest_close {c0 : Nat} {hp : px_H} {res : px_H} (hc0 : c0 ∈ [19, 20, 47, 66, 67, 68]) (hS : oS hp) (h : fn_Chest_close c0 hp = some res) : px_C nm_T nm_P mi_Chest_close [.ref c0, .ref 21] hp none res ∧ oS res := by
  unfold fn_Chest_close at h
  refine py_C (M := mm_Chest_close) rfl (Nat.le_of_ble_eq_true rfl) ?_
  show px_Y mm_Chest_close 0 [(0, .ref c0), (1, .ref 21)] [] hp _ _
  refine py_its (pc := 0) (pc1 := 2) (lv1 := [(0, .ref c0), (1, .ref 21)]) (st1 := [.ref 21, .ref c0]) 2 (fun _ _ _ _ => rfl) ?_
  refine py_gI (pc := 2) (len := 3) (cs := [21]) rfl rfl rfl List.mem_cons_self hS ?_
  refine py_its (pc := 5) (pc1 := 7) (lv1 := [(0, .ref c0), (1, .ref 21)]) (st1 := [.ref 21, .ref c0, .int (gI hp 21 5), .ref c0]) 2 (fun _ _ _ _ => rfl) ?_
  refine py_gI (pc := 7) (len := 3) (cs := [21]) rfl rfl rfl List.mem_cons_self hS ?_
  obtain ⟨q1, hq2, h⟩ := bd_e h
  have hC3 := (fx_Chest_part hc0 hS hq2).1
  refine py_vi (pc := 10) (mi := mi_Chest_part) (cs := [19, 20, 47, 66, 67, 68]) (N := mm_Chest_part) rfl rfl rfl rfl hc0 hS rfl (Nat.le_of_ble_eq_true rfl) (Nat.le_of_ble_eq_true rfl) rfl rfl hC3 ?_
  show px_Y mm_Chest_close 13 [(0, .ref c0), (1, .ref 21)] [.int q1, .int (gI hp 21 5), .ref c0] hp _ _
  refine py_its (pc := 13) (pc1 := 15) (lv1 := [(0, .ref c0), (1, .ref 21)]) (st1 := [.int (Int32.ofInt 4), .ref c0, .int q1, .int (gI hp 21 5), .ref c0]) 2 (fun _ _ _ _ => rfl) ?_
  obtain ⟨q4, hq5, h⟩ := bd_e h
  have hC6 := (fx_Chest_part hc0 hS hq5).1
  refine py_vi (pc := 15) (mi := mi_Chest_part) (cs := [19, 20, 47, 66, 67, 68]) (N := mm_Chest_part) rfl rfl rfl rfl hc0 hS rfl (Nat.le_of_ble_eq_true rfl) (Nat.le_of_ble_eq_true rfl) rfl rfl hC6 ?_
  show px_Y mm_Chest_close 18 [(0, .ref c0), (1, .ref 21)] [.int q4, .int q1, .int (gI hp 21 5), .ref c0] hp _ _
  refine py_its (pc := 18) (pc1 := 19) (lv1 := [(0, .ref c0), (1, .ref 21)]) (st1 := [.int (q1 ||| q4), .int (gI hp 21 5), .ref c0]) 1 (fun _ _ _ _ => rfl) ?_
  obtain ⟨q7, hq8, h⟩ := bd_e h
  obtain ⟨hC9, hS10⟩ := fx_Chest_setPart hc0 hS hq8
  refine py_vi (pc := 19) (mi := mi_Chest_setPart) (cs := [19, 20, 47, 66, 67, 68]) (N := mm_Chest_setPart) rfl rfl rfl rfl hc0 hS rfl (Nat.le_of_ble_eq_true rfl) (Nat.le_of_ble_eq_true rfl) rfl rfl hC9 ?_
  show px_Y mm_Chest_close 22 [(0, .ref c0), (1, .ref 21)] [] q7 _ _
  refine py_its (pc := 22) (pc1 := 25) (lv1 := [(0, .ref c0), (1, .ref 21)]) (st1 := [.int (Int32.ofInt 0), .int (Int32.ofInt 4), .ref c0]) 3 (fun _ _ _ _ => rfl) ?_
  obtain ⟨q11, hq12, h⟩ := bd_e h
  obtain ⟨hC13, hS14⟩ := fx_Chest_setPart hc0 hS10 hq12
  refine py_vi (pc := 25) (mi := mi_Chest_setPart) (cs := [19, 20, 47, 66, 67, 68]) (N := mm_Chest_setPart) rfl rfl rfl rfl hc0 hS10 rfl (Nat.le_of_ble_eq_true rfl) (Nat.le_of_ble_eq_true rfl) rfl rfl hC13 ?_
  show px_Y mm_Chest_close 28 [(0, .ref c0), (1, .ref 21)] [] q11 _ _
  have h := Option.some.inj h
  subst h
  exact py_rt (pc := 28) (len := 1) rfl rfl hS14
/-! X_run -/
noncomputable def fb_X_run_L155 (v1 : Int32) (v2 : Int32) (rc : Int32 → px_H → Option (Int32 × px_H)) (v3 : Int32) (hp : px_H) : Option (Int32 × px_H) :=
  bif px_cmp .ge v3 v1 then
    (fn_Chest_close 19 hp).bind fun q64 =>
    sb (wF q64 19 2 (.int ((gI q64 19 2) + (Int32.ofInt 1)))) fun h68 =>
    some (v2, h68)
  else
    bif px_inR v3 10 then
    (fn_Row_tell (aI hp 50 v3.toNatClampNeg).toInt64 hp).bind fun q71 =>
    rc (v3 + Int32.ofInt 1) q71
    else none
noncomputable def fn_X_run_L155 (v1 : Int32) (v2 : Int32) : Nat → Int32 → px_H → Option (Int32 × px_H)
  | 0 => fun _ _ => none
  | n + 1 => fb_X_run_L155 v1 v2 (fn_X_run_L155 v1 v2 n)
theorem fl_X_run_L155 {v1 : Int32} {v2 : Int32}  : ∀ (n : Nat) (v3 : Int32) (hp : px_H) (lv : List (Nat × Value)) (res : Int32 × px_H), oS hp → lk lv [(0, .ref 0), (1, .int v1), (2, .int v2), (3, .int v3)] → fn_X_run_L155 v1 v2 n v3 hp = some res → px_Y mm_X_run 155 lv [] hp (some (.int res.1)) res.2 := by
  intro n
  induction n with
  | zero =>
    intro v3 hp lv res hS hk h
    cases h
  | succ n ih =>
    intro v3 hp lv res hS hk h
    have h : fb_X_run_L155 v1 v2 (fn_X_run_L155 v1 v2 n) v3 hp = some res := h
    unfold fb_X_run_L155 at h
    refine py_iln (pc := 155) (len := 1) (j := 3) rfl hk rfl ?_
    refine py_iln (pc := 156) (len := 1) (j := 1) rfl hk rfl ?_
    cases hb63 : px_cmp .ge v3 v1 with
    | true =>
      have h := cd_t hb63 h
      refine py_ic (pc := 157) (len := 3) true rfl hb63 ?_
      refine py_aln (pc := 180) (len := 1) (j := 0) rfl hk rfl ?_
      refine py_g1 19 (pc := 181) (len := 3) (cs := [0]) rfl rfl rfl List.mem_cons_self hS ?_
      refine py_aln (pc := 184) (len := 1) (j := 0) rfl hk rfl ?_
      refine py_g1 21 (pc := 185) (len := 3) (cs := [0]) rfl rfl rfl List.mem_cons_self hS ?_
      obtain ⟨q64, hq65, h⟩ := bd_e h
      obtain ⟨hC66, hS67⟩ := fx_Chest_close (List.mem_of_elem_eq_true rfl) hS hq65
      refine py_vi (pc := 188) (mi := mi_Chest_close) (cs := [19]) (N := mm_Chest_close) rfl rfl rfl rfl List.mem_cons_self hS rfl (Nat.le_of_ble_eq_true rfl) (Nat.le_of_ble_eq_true rfl) rfl rfl hC66 ?_
      show px_Y mm_X_run 191 lv [] q64 _ _
      refine py_aln (pc := 191) (len := 1) (j := 0) rfl hk rfl ?_
      refine py_g1 19 (pc := 192) (len := 3) (cs := [0]) rfl rfl rfl List.mem_cons_self hS67 ?_
      refine py_its (pc := 195) (pc1 := 196) (lv1 := lv) (st1 := [.ref 19, .ref 19]) 1 (fun _ _ _ _ => rfl) ?_
      refine py_gI (pc := 196) (len := 3) (cs := [19]) rfl rfl rfl List.mem_cons_self hS67 ?_
      refine py_its (pc := 199) (pc1 := 201) (lv1 := lv) (st1 := [.int ((gI q64 19 2) + (Int32.ofInt 1)), .ref 19]) 2 (fun _ _ _ _ => rfl) ?_
      have h := sb_e h
      refine py_pI (pc := 201) (len := 3) (cs := [19]) rfl rfl rfl List.mem_cons_self hS67 rfl rfl rfl rfl ?_
      have hS69 : oS (wF q64 19 2 (.int ((gI q64 19 2) + (Int32.ofInt 1)))) := oS_wI (cs := [19]) (ci := 0) rfl List.mem_cons_self hS67
      generalize (wF q64 19 2 (.int ((gI q64 19 2) + (Int32.ofInt 1)))) = h68 at h hS69 ⊢
      refine py_iln (pc := 204) (len := 1) (j := 2) rfl hk rfl ?_
      have h := Option.some.inj h
      subst h
      exact py_ir (pc := 205) (len := 1) (ty := .int) rfl rfl rfl hS69
    | false =>
      have h := cd_f hb63 h
      refine py_ic (pc := 157) (len := 3) false rfl hb63 ?_
      refine py_aln (pc := 160) (len := 1) (j := 0) rfl hk rfl ?_
      refine py_g1 48 (pc := 161) (len := 3) (cs := [0]) rfl rfl rfl List.mem_cons_self hS ?_
      refine py_aln (pc := 164) (len := 1) (j := 0) rfl hk rfl ?_
      refine py_g1 50 (pc := 165) (len := 3) (cs := [0]) rfl rfl rfl List.mem_cons_self hS ?_
      refine py_iln (pc := 168) (len := 1) (j := 3) rfl hk rfl ?_
      obtain ⟨hi70, h⟩ := cd_n h
      refine py_ai (pc := 169) (len := 1) (cs := [50]) (t := 23) (n := 10) rfl rfl rfl hi70 List.mem_cons_self hS ?_
      refine py_its (pc := 170) (pc1 := 171) (lv1 := lv) (st1 := [.long (aI hp 50 v3.toNatClampNeg).toInt64, .ref 48]) 1 (fun _ _ _ _ => rfl) ?_
      obtain ⟨q71, hq72, h⟩ := bd_e h
      obtain ⟨hC73, hS74⟩ := fx_Row_tell hS hq72
      refine py_vi (pc := 171) (mi := mi_Row_tell) (cs := [48]) (N := mm_Row_tell) rfl rfl rfl rfl List.mem_cons_self hS rfl (Nat.le_of_ble_eq_true rfl) (Nat.le_of_ble_eq_true rfl) rfl rfl hC73 ?_
      show px_Y mm_X_run 174 lv [] q71 _ _
      refine py_inc (pc := 174) (len := 3) (j := 3) (n := 1) rfl rfl hk rfl (fun lv75 hk76 => ?_)
      have hk76 : lk lv75 [(3, .int (v3 + Int32.ofInt 1)), (0, .ref 0), (1, .int v1), (2, .int v2)] := hk76
      refine py_its (pc := 177) (pc1 := 155) (lv1 := lv75) (st1 := []) 1 (fun _ _ _ _ => rfl) ?_
      exact ih (v3 + Int32.ofInt 1) q71 lv75 _ hS74 ⟨lk_find hk76 rfl, lk_find hk76 rfl, lk_find hk76 rfl, lk_find hk76 rfl, trivial⟩ h
noncomputable def fb_X_run_L33  (rc : Int32 → px_H → Option (Int32 × px_H)) (v1 : Int32) (hp : px_H) : Option (Int32 × px_H) :=
  bif px_cmp .ge v1 (Int8.ofInt 10).toInt32 then
    fn_X_run_L155 v1 (gI hp 48 1) fu (Int32.ofInt 0) hp
  else
    (fn_Chest_isOver 19 hp).bind fun q22 =>
    bif px_cmp .ne q22 0 then
      fn_X_run_L155 v1 (gI hp 48 1) fu (Int32.ofInt 0) hp
    else
      (fn_Chest_part 19 (gI hp 21 5) hp).bind fun q30 =>
      (fn_X_drawSlip q30 hp).bind fun q33 =>
      (fn_Chest_part 19 (gI q33.2 21 5) q33.2).bind fun q39 =>
      (fn_Chest_part 19 (Int32.ofInt 5) q33.2).bind fun q42 =>
      (fn_Course_foretell q39 q42 (gI q33.2 19 1) q33.2).bind fun q45 =>
      bif px_inR v1 10 then
      sb (uI q45 50 v1.toNatClampNeg q33.1) fun h50 =>
      (fn_Chest_takeOut 19 q33.1 h50).bind fun q54 =>
      bif px_cmp .eq q54.1 0 then
        rc (v1 + Int32.ofInt 1) q54.2
      else
        (fn_Row_tell q33.1.toInt64 q54.2).bind fun q59 =>
        rc (v1 + Int32.ofInt 1) q59
      else none
noncomputable def fn_X_run_L33  : Nat → Int32 → px_H → Option (Int32 × px_H)
  | 0 => fun _ _ => none
  | n + 1 => fb_X_run_L33  (fn_X_run_L33  n)
theorem fl_X_run_L33   : ∀ (n : Nat) (v1 : Int32) (hp : px_H) (lv : List (Nat × Value)) (res : Int32 × px_H), oS hp → lk lv [(0, .ref 0), (1, .int v1)] → fn_X_run_L33  n v1 hp = some res → px_Y mm_X_run 33 lv [] hp (some (.int res.1)) res.2 := by
  intro n
  induction n with
  | zero =>
    intro v1 hp lv res hS hk h
    cases h
  | succ n ih =>
    intro v1 hp lv res hS hk h
    have h : fb_X_run_L33  (fn_X_run_L33  n) v1 hp = some res := h
    unfold fb_X_run_L33 at h
    refine py_iln (pc := 33) (len := 1) (j := 1) rfl hk rfl ?_
    refine py_its (pc := 34) (pc1 := 36) (lv1 := lv) (st1 := [.int (Int8.ofInt 10).toInt32, .int v1]) 1 (fun _ _ _ _ => rfl) ?_
    cases hb17 : px_cmp .ge v1 (Int8.ofInt 10).toInt32 with
    | true =>
      have h := cd_t hb17 h
      refine py_ic (pc := 36) (len := 3) true rfl hb17 ?_
      refine py_aln (pc := 145) (len := 1) (j := 0) rfl hk rfl ?_
      refine py_g1 48 (pc := 146) (len := 3) (cs := [0]) rfl rfl rfl List.mem_cons_self hS ?_
      refine py_gI (pc := 149) (len := 3) (cs := [48]) rfl rfl rfl List.mem_cons_self hS ?_
      refine py_sin (pc := 152) (len := 1) (j := 2) rfl rfl hk (fun lv18 hk19 => ?_)
      have hk19 : lk lv18 [(2, .int (gI hp 48 1)), (0, .ref 0), (1, .int v1)] := hk19
      refine py_its (pc := 153) (pc1 := 154) (lv1 := lv18) (st1 := [.int (Int32.ofInt 0)]) 1 (fun _ _ _ _ => rfl) ?_
      refine py_sin (pc := 154) (len := 1) (j := 3) rfl rfl hk19 (fun lv20 hk21 => ?_)
      have hk21 : lk lv20 [(3, .int (Int32.ofInt 0)), (2, .int (gI hp 48 1)), (0, .ref 0), (1, .int v1)] := hk21
      exact fl_X_run_L155 fu (Int32.ofInt 0) hp lv20 _ hS ⟨lk_find hk21 rfl, lk_find hk21 rfl, lk_find hk21 rfl, lk_find hk21 rfl, trivial⟩ h
    | false =>
      have h := cd_f hb17 h
      refine py_ic (pc := 36) (len := 3) false rfl hb17 ?_
      refine py_aln (pc := 39) (len := 1) (j := 0) rfl hk rfl ?_
      refine py_g1 19 (pc := 40) (len := 3) (cs := [0]) rfl rfl rfl List.mem_cons_self hS ?_
      refine py_aln (pc := 43) (len := 1) (j := 0) rfl hk rfl ?_
      refine py_g1 21 (pc := 44) (len := 3) (cs := [0]) rfl rfl rfl List.mem_cons_self hS ?_
      obtain ⟨q22, hq23, h⟩ := bd_e h
      have hC24 := (fx_Chest_isOver (List.mem_of_elem_eq_true rfl) hS hq23).1
      refine py_vi (pc := 47) (mi := mi_Chest_isOver) (cs := [19]) (N := mm_Chest_isOver) rfl rfl rfl rfl List.mem_cons_self hS rfl (Nat.le_of_ble_eq_true rfl) (Nat.le_of_ble_eq_true rfl) rfl rfl hC24 ?_
      show px_Y mm_X_run 50 lv [.int q22] hp _ _
      cases hb25 : px_cmp .ne q22 0 with
      | true =>
        have h := cd_t hb25 h
        refine py_if (pc := 50) (len := 3) true rfl hb25 ?_
        refine py_aln (pc := 145) (len := 1) (j := 0) rfl hk rfl ?_
        refine py_g1 48 (pc := 146) (len := 3) (cs := [0]) rfl rfl rfl List.mem_cons_self hS ?_
        refine py_gI (pc := 149) (len := 3) (cs := [48]) rfl rfl rfl List.mem_cons_self hS ?_
        refine py_sin (pc := 152) (len := 1) (j := 2) rfl rfl hk (fun lv26 hk27 => ?_)
        have hk27 : lk lv26 [(2, .int (gI hp 48 1)), (0, .ref 0), (1, .int v1)] := hk27
        refine py_its (pc := 153) (pc1 := 154) (lv1 := lv26) (st1 := [.int (Int32.ofInt 0)]) 1 (fun _ _ _ _ => rfl) ?_
        refine py_sin (pc := 154) (len := 1) (j := 3) rfl rfl hk27 (fun lv28 hk29 => ?_)
        have hk29 : lk lv28 [(3, .int (Int32.ofInt 0)), (2, .int (gI hp 48 1)), (0, .ref 0), (1, .int v1)] := hk29
        exact fl_X_run_L155 fu (Int32.ofInt 0) hp lv28 _ hS ⟨lk_find hk29 rfl, lk_find hk29 rfl, lk_find hk29 rfl, lk_find hk29 rfl, trivial⟩ h
      | false =>
        have h := cd_f hb25 h
        refine py_if (pc := 50) (len := 3) false rfl hb25 ?_
        refine py_aln (pc := 53) (len := 1) (j := 0) rfl hk rfl ?_
        refine py_aln (pc := 54) (len := 1) (j := 0) rfl hk rfl ?_
        refine py_g1 19 (pc := 55) (len := 3) (cs := [0]) rfl rfl rfl List.mem_cons_self hS ?_
        refine py_aln (pc := 58) (len := 1) (j := 0) rfl hk rfl ?_
        refine py_g1 21 (pc := 59) (len := 3) (cs := [0]) rfl rfl rfl List.mem_cons_self hS ?_
        refine py_gI (pc := 62) (len := 3) (cs := [21]) rfl rfl rfl List.mem_cons_self hS ?_
        obtain ⟨q30, hq31, h⟩ := bd_e h
        have hC32 := (fx_Chest_part (List.mem_of_elem_eq_true rfl) hS hq31).1
        refine py_vi (pc := 65) (mi := mi_Chest_part) (cs := [19]) (N := mm_Chest_part) rfl rfl rfl rfl List.mem_cons_self hS rfl (Nat.le_of_ble_eq_true rfl) (Nat.le_of_ble_eq_true rfl) rfl rfl hC32 ?_
        show px_Y mm_X_run 68 lv [.int q30, .ref 0] hp _ _
        obtain ⟨q33, hq34, h⟩ := bd_e h
        obtain ⟨hC35, hS36⟩ := fx_X_drawSlip hS hq34
        refine py_vi (pc := 68) (mi := mi_X_drawSlip) (cs := [0]) (N := mm_X_drawSlip) rfl rfl rfl rfl List.mem_cons_self hS rfl (Nat.le_of_ble_eq_true rfl) (Nat.le_of_ble_eq_true rfl) rfl rfl hC35 ?_
        show px_Y mm_X_run 71 lv [.int q33.1] q33.2 _ _
        refine py_sin (pc := 71) (len := 1) (j := 2) rfl rfl hk (fun lv37 hk38 => ?_)
        have hk38 : lk lv37 [(2, .int q33.1), (0, .ref 0), (1, .int v1)] := hk38
        refine py_aln (pc := 72) (len := 1) (j := 0) rfl hk38 rfl ?_
        refine py_g1 21 (pc := 73) (len := 3) (cs := [0]) rfl rfl rfl List.mem_cons_self hS36 ?_
        refine py_aln (pc := 76) (len := 1) (j := 0) rfl hk38 rfl ?_
        refine py_g1 19 (pc := 77) (len := 3) (cs := [0]) rfl rfl rfl List.mem_cons_self hS36 ?_
        refine py_aln (pc := 80) (len := 1) (j := 0) rfl hk38 rfl ?_
        refine py_g1 21 (pc := 81) (len := 3) (cs := [0]) rfl rfl rfl List.mem_cons_self hS36 ?_
        refine py_gI (pc := 84) (len := 3) (cs := [21]) rfl rfl rfl List.mem_cons_self hS36 ?_
        obtain ⟨q39, hq40, h⟩ := bd_e h
        have hC41 := (fx_Chest_part (List.mem_of_elem_eq_true rfl) hS36 hq40).1
        refine py_vi (pc := 87) (mi := mi_Chest_part) (cs := [19]) (N := mm_Chest_part) rfl rfl rfl rfl List.mem_cons_self hS36 rfl (Nat.le_of_ble_eq_true rfl) (Nat.le_of_ble_eq_true rfl) rfl rfl hC41 ?_
        show px_Y mm_X_run 90 lv37 [.int q39, .ref 21] q33.2 _ _
        refine py_aln (pc := 90) (len := 1) (j := 0) rfl hk38 rfl ?_
        refine py_g1 19 (pc := 91) (len := 3) (cs := [0]) rfl rfl rfl List.mem_cons_self hS36 ?_
        refine py_its (pc := 94) (pc1 := 95) (lv1 := lv37) (st1 := [.int (Int32.ofInt 5), .ref 19, .int q39, .ref 21]) 1 (fun _ _ _ _ => rfl) ?_
        obtain ⟨q42, hq43, h⟩ := bd_e h
        have hC44 := (fx_Chest_part (List.mem_of_elem_eq_true rfl) hS36 hq43).1
        refine py_vi (pc := 95) (mi := mi_Chest_part) (cs := [19]) (N := mm_Chest_part) rfl rfl rfl rfl List.mem_cons_self hS36 rfl (Nat.le_of_ble_eq_true rfl) (Nat.le_of_ble_eq_true rfl) rfl rfl hC44 ?_
        show px_Y mm_X_run 98 lv37 [.int q42, .int q39, .ref 21] q33.2 _ _
        refine py_aln (pc := 98) (len := 1) (j := 0) rfl hk38 rfl ?_
        refine py_g1 19 (pc := 99) (len := 3) (cs := [0]) rfl rfl rfl List.mem_cons_self hS36 ?_
        refine py_gI (pc := 102) (len := 3) (cs := [19]) rfl rfl rfl List.mem_cons_self hS36 ?_
        obtain ⟨q45, hq46, h⟩ := bd_e h
        obtain ⟨hC47, hS48⟩ := fx_Course_foretell hS36 hq46
        refine py_vi (pc := 105) (mi := mi_Course_foretell) (cs := [21]) (N := mm_Course_foretell) rfl rfl rfl rfl List.mem_cons_self hS36 rfl (Nat.le_of_ble_eq_true rfl) (Nat.le_of_ble_eq_true rfl) rfl rfl hC47 ?_
        show px_Y mm_X_run 108 lv37 [] q45 _ _
        refine py_aln (pc := 108) (len := 1) (j := 0) rfl hk38 rfl ?_
        refine py_g1 50 (pc := 109) (len := 3) (cs := [0]) rfl rfl rfl List.mem_cons_self hS48 ?_
        refine py_iln (pc := 112) (len := 1) (j := 1) rfl hk38 rfl ?_
        refine py_iln (pc := 113) (len := 1) (j := 2) rfl hk38 rfl ?_
        obtain ⟨hi49, h⟩ := cd_n h
        have h := sb_e h
        refine py_si (pc := 114) (len := 1) (cs := [50]) (t := 23) (n := 10) rfl rfl rfl hi49 List.mem_cons_self hS48 ?_
        have hS51 : oS (uI q45 50 v1.toNatClampNeg q33.1) := oS_uI (cs := [50]) (t := 23) (n := 10) rfl List.mem_cons_self hS48
        generalize (uI q45 50 v1.toNatClampNeg q33.1) = h50 at h hS51 ⊢
        refine py_inc (pc := 115) (len := 3) (j := 1) (n := 1) rfl rfl hk38 rfl (fun lv52 hk53 => ?_)
        have hk53 : lk lv52 [(1, .int (v1 + Int32.ofInt 1)), (2, .int q33.1), (0, .ref 0)] := hk53
        refine py_aln (pc := 118) (len := 1) (j := 0) rfl hk53 rfl ?_
        refine py_g1 19 (pc := 119) (len := 3) (cs := [0]) rfl rfl rfl List.mem_cons_self hS51 ?_
        refine py_aln (pc := 122) (len := 1) (j := 0) rfl hk53 rfl ?_
        refine py_g1 21 (pc := 123) (len := 3) (cs := [0]) rfl rfl rfl List.mem_cons_self hS51 ?_
        refine py_iln (pc := 126) (len := 1) (j := 2) rfl hk53 rfl ?_
        obtain ⟨q54, hq55, h⟩ := bd_e h
        obtain ⟨hC56, hS57⟩ := fx_Chest_takeOut (List.mem_of_elem_eq_true rfl) hS51 hq55
        refine py_vi (pc := 127) (mi := mi_Chest_takeOut) (cs := [19]) (N := mm_Chest_takeOut) rfl rfl rfl rfl List.mem_cons_self hS51 rfl (Nat.le_of_ble_eq_true rfl) (Nat.le_of_ble_eq_true rfl) rfl rfl hC56 ?_
        show px_Y mm_X_run 130 lv52 [.int q54.1] q54.2 _ _
        cases hb58 : px_cmp .eq q54.1 0 with
        | true =>
          have h := cd_t hb58 h
          refine py_if (pc := 130) (len := 3) true rfl hb58 ?_
          refine py_its (pc := 142) (pc1 := 33) (lv1 := lv52) (st1 := []) 1 (fun _ _ _ _ => rfl) ?_
          exact ih (v1 + Int32.ofInt 1) q54.2 lv52 _ hS57 ⟨lk_find hk53 rfl, lk_find hk53 rfl, trivial⟩ h
        | false =>
          have h := cd_f hb58 h
          refine py_if (pc := 130) (len := 3) false rfl hb58 ?_
          refine py_aln (pc := 133) (len := 1) (j := 0) rfl hk53 rfl ?_
          refine py_g1 48 (pc := 134) (len := 3) (cs := [0]) rfl rfl rfl List.mem_cons_self hS57 ?_
          refine py_iln (pc := 137) (len := 1) (j := 2) rfl hk53 rfl ?_
          refine py_its (pc := 138) (pc1 := 139) (lv1 := lv52) (st1 := [.long q33.1.toInt64, .ref 48]) 1 (fun _ _ _ _ => rfl) ?_
          obtain ⟨q59, hq60, h⟩ := bd_e h
          obtain ⟨hC61, hS62⟩ := fx_Row_tell hS57 hq60
          refine py_vi (pc := 139) (mi := mi_Row_tell) (cs := [48]) (N := mm_Row_tell) rfl rfl rfl rfl List.mem_cons_self hS57 rfl (Nat.le_of_ble_eq_true rfl) (Nat.le_of_ble_eq_true rfl) rfl rfl hC61 ?_
          show px_Y mm_X_run 142 lv52 [] q59 _ _
          refine py_its (pc := 142) (pc1 := 33) (lv1 := lv52) (st1 := []) 1 (fun _ _ _ _ => rfl) ?_
          exact ih (v1 + Int32.ofInt 1) q59 lv52 _ hS62 ⟨lk_find hk53 rfl, lk_find hk53 rfl, trivial⟩ h
noncomputable def fn_X_run  (hp : px_H) : Option (Int32 × px_H) :=
  (fn_X_isDrawingLeft hp).bind fun q1 =>
  bif px_cmp .ne q1 0 then
    (fn_X_readyNow hp).bind fun q5 =>
    (fn_Chest_open 19 q5).bind fun q9 =>
    (fn_Row_clear q9).bind fun q13 =>
    fn_X_run_L33 fu (Int32.ofInt 0) q13
  else
    some ((Int32.ofInt (-1)), hp)
theorem fx_X_run  {hp : px_H} {res : Int32 × px_H} (hS : oS hp) (h : fn_X_run hp = some res) : px_C nm_T nm_P mi_X_run [.ref 0] hp (some (.int res.1)) res.2 ∧ oS res.2 := by
  unfold fn_X_run at h
  refine py_C (M := mm_X_run) rfl (Nat.le_of_ble_eq_true rfl) ?_
  show px_Y mm_X_run 0 [(0, .ref 0)] [] hp _ _
  refine py_its (pc := 0) (pc1 := 1) (lv1 := [(0, .ref 0)]) (st1 := [.ref 0]) 1 (fun _ _ _ _ => rfl) ?_
  obtain ⟨q1, hq2, h⟩ := bd_e h
  have hC3 := (fx_X_isDrawingLeft hS hq2).1
  refine py_vi (pc := 1) (mi := mi_X_isDrawingLeft) (cs := [0]) (N := mm_X_isDrawingLeft) rfl rfl rfl rfl List.mem_cons_self hS rfl (Nat.le_of_ble_eq_true rfl) (Nat.le_of_ble_eq_true rfl) rfl rfl hC3 ?_
  show px_Y mm_X_run 4 [(0, .ref 0)] [.int q1] hp _ _
  cases hb4 : px_cmp .ne q1 0 with
  | true =>
    have h := cd_t hb4 h
    refine py_if (pc := 4) (len := 3) true rfl hb4 ?_
    refine py_its (pc := 9) (pc1 := 10) (lv1 := [(0, .ref 0)]) (st1 := [.ref 0]) 1 (fun _ _ _ _ => rfl) ?_
    obtain ⟨q5, hq6, h⟩ := bd_e h
    obtain ⟨hC7, hS8⟩ := fx_X_readyNow hS hq6
    refine py_vi (pc := 10) (mi := mi_X_readyNow) (cs := [0]) (N := mm_X_readyNow) rfl rfl rfl rfl List.mem_cons_self hS rfl (Nat.le_of_ble_eq_true rfl) (Nat.le_of_ble_eq_true rfl) rfl rfl hC7 ?_
    show px_Y mm_X_run 13 [(0, .ref 0)] [] q5 _ _
    refine py_its (pc := 13) (pc1 := 14) (lv1 := [(0, .ref 0)]) (st1 := [.ref 0]) 1 (fun _ _ _ _ => rfl) ?_
    refine py_g1 19 (pc := 14) (len := 3) (cs := [0]) rfl rfl rfl List.mem_cons_self hS8 ?_
    refine py_its (pc := 17) (pc1 := 18) (lv1 := [(0, .ref 0)]) (st1 := [.ref 0, .ref 19]) 1 (fun _ _ _ _ => rfl) ?_
    refine py_g1 21 (pc := 18) (len := 3) (cs := [0]) rfl rfl rfl List.mem_cons_self hS8 ?_
    obtain ⟨q9, hq10, h⟩ := bd_e h
    obtain ⟨hC11, hS12⟩ := fx_Chest_open (List.mem_of_elem_eq_true rfl) hS8 hq10
    refine py_vi (pc := 21) (mi := mi_Chest_open) (cs := [19]) (N := mm_Chest_open) rfl rfl rfl rfl List.mem_cons_self hS8 rfl (Nat.le_of_ble_eq_true rfl) (Nat.le_of_ble_eq_true rfl) rfl rfl hC11 ?_
    show px_Y mm_X_run 24 [(0, .ref 0)] [] q9 _ _
    refine py_its (pc := 24) (pc1 := 25) (lv1 := [(0, .ref 0)]) (st1 := [.ref 0]) 1 (fun _ _ _ _ => rfl) ?_
    refine py_g1 48 (pc := 25) (len := 3) (cs := [0]) rfl rfl rfl List.mem_cons_self hS12 ?_
    obtain ⟨q13, hq14, h⟩ := bd_e h
    obtain ⟨hC15, hS16⟩ := fx_Row_clear hS12 hq14
    refine py_vi (pc := 28) (mi := mi_Row_clear) (cs := [48]) (N := mm_Row_clear) rfl rfl rfl rfl List.mem_cons_self hS12 rfl (Nat.le_of_ble_eq_true rfl) (Nat.le_of_ble_eq_true rfl) rfl rfl hC15 ?_
    show px_Y mm_X_run 31 [(0, .ref 0)] [] q13 _ _
    refine py_its (pc := 31) (pc1 := 33) (lv1 := [(1, .int (Int32.ofInt 0)), (0, .ref 0)]) (st1 := []) 2 (fun _ _ _ _ => rfl) ?_
    exact fl_X_run_L33 fu (Int32.ofInt 0) q13 [(1, .int (Int32.ofInt 0)), (0, .ref 0)] _ hS16 ⟨rfl, rfl, trivial⟩ h
  | false =>
    have h := cd_f hb4 h
    refine py_if (pc := 4) (len := 3) false rfl hb4 ?_
    refine py_its (pc := 7) (pc1 := 8) (lv1 := [(0, .ref 0)]) (st1 := [.int (Int32.ofInt (-1))]) 1 (fun _ _ _ _ => rfl) ?_
    have h := Option.some.inj h
    subst h
    exact py_ir (pc := 8) (len := 1) (ty := .int) rfl rfl rfl hS
/-! X_slipAt -/
noncomputable def fn_X_slipAt (a0 : Int64) (a1 : Int32) (hp : px_H) : Option (Int32) :=
  some ((sx_lus a0 ((Int32.ofInt 4) * a1)).toInt32 &&& (Int8.ofInt 15).toInt32)
theorem fx_X_slipAt {a0 : Int64} {a1 : Int32} {hp : px_H} {res : Int32} (hS : oS hp) (h : fn_X_slipAt a0 a1 hp = some res) : px_C nm_T nm_P mi_X_slipAt [.long a0, .int a1] hp (some (.int res)) hp ∧ oS hp := by
  unfold fn_X_slipAt at h
  refine py_C (M := mm_X_slipAt) rfl (Nat.le_of_ble_eq_true rfl) ?_
  show px_Y mm_X_slipAt 0 [(0, .long a0), (2, .int a1)] [] hp _ _
  refine py_its (pc := 0) (pc1 := 9) (lv1 := [(0, .long a0), (2, .int a1)]) (st1 := [.int ((sx_lus a0 ((Int32.ofInt 4) * a1)).toInt32 &&& (Int8.ofInt 15).toInt32)]) 8 (fun _ _ _ _ => rfl) ?_
  have h := Option.some.inj h
  subst h
  exact py_ir (pc := 9) (len := 1) (ty := .int) rfl rfl rfl hS
/-! X_areSlips -/
noncomputable def fb_X_areSlips_L14 (v0 : Int64) (v2 : Int32) (hp : px_H) (rc : Int32 → Option (Int32)) (v3 : Int32) : Option (Int32) :=
  bif px_cmp .ge v3 v2 then
    some (Int32.ofInt 1)
  else
    (fn_X_slipAt v0 v3 hp).bind fun q4 =>
    bif px_cmp .lt q4 (Int8.ofInt 10).toInt32 then
      rc (v3 + Int32.ofInt 1)
    else
      some (Int32.ofInt 0)
noncomputable def fn_X_areSlips_L14 (v0 : Int64) (v2 : Int32) (hp : px_H) : Nat → Int32 → Option (Int32)
  | 0 => fun _ => none
  | n + 1 => fb_X_areSlips_L14 v0 v2 hp (fn_X_areSlips_L14 v0 v2 hp n)
theorem fl_X_areSlips_L14 {v0 : Int64} {v2 : Int32} {hp : px_H}  : ∀ (n : Nat) (v3 : Int32) (lv : List (Nat × Value)) (res : Int32), oS hp → lk lv [(0, .long v0), (2, .int v2), (3, .int v3)] → fn_X_areSlips_L14 v0 v2 hp n v3 = some res → px_Y mm_X_areSlips 14 lv [] hp (some (.int res)) hp := by
  intro n
  induction n with
  | zero =>
    intro v3 lv res hS hk h
    cases h
  | succ n ih =>
    intro v3 lv res hS hk h
    have h : fb_X_areSlips_L14 v0 v2 hp (fn_X_areSlips_L14 v0 v2 hp n) v3 = some res := h
    unfold fb_X_areSlips_L14 at h
    refine py_iln (pc := 14) (len := 1) (j := 3) rfl hk rfl ?_
    refine py_iln (pc := 15) (len := 1) (j := 2) rfl hk rfl ?_
    cases hb3 : px_cmp .ge v3 v2 with
    | true =>
      have h := cd_t hb3 h
      refine py_ic (pc := 16) (len := 3) true rfl hb3 ?_
      refine py_its (pc := 37) (pc1 := 38) (lv1 := lv) (st1 := [.int (Int32.ofInt 1)]) 1 (fun _ _ _ _ => rfl) ?_
      have h := Option.some.inj h
      subst h
      exact py_ir (pc := 38) (len := 1) (ty := .boolean) rfl rfl (by decide) hS
    | false =>
      have h := cd_f hb3 h
      refine py_ic (pc := 16) (len := 3) false rfl hb3 ?_
      refine py_lln (pc := 19) (len := 1) (j := 0) rfl hk rfl ?_
      refine py_iln (pc := 20) (len := 1) (j := 3) rfl hk rfl ?_
      obtain ⟨q4, hq5, h⟩ := bd_e h
      have hC6 := (fx_X_slipAt hS hq5).1
      refine py_st (pc := 21) (mi := mi_X_slipAt) (N := mm_X_slipAt) rfl rfl rfl (Nat.le_of_ble_eq_true rfl) (Nat.le_of_ble_eq_true rfl) rfl rfl hC6 ?_
      show px_Y mm_X_areSlips 24 lv [.int q4] hp _ _
      refine py_its (pc := 24) (pc1 := 26) (lv1 := lv) (st1 := [.int (Int8.ofInt 10).toInt32, .int q4]) 1 (fun _ _ _ _ => rfl) ?_
      cases hb7 : px_cmp .lt q4 (Int8.ofInt 10).toInt32 with
      | true =>
        have h := cd_t hb7 h
        refine py_ic (pc := 26) (len := 3) true rfl hb7 ?_
        refine py_inc (pc := 31) (len := 3) (j := 3) (n := 1) rfl rfl hk rfl (fun lv8 hk9 => ?_)
        have hk9 : lk lv8 [(3, .int (v3 + Int32.ofInt 1)), (0, .long v0), (2, .int v2)] := hk9
        refine py_its (pc := 34) (pc1 := 14) (lv1 := lv8) (st1 := []) 1 (fun _ _ _ _ => rfl) ?_
        exact ih (v3 + Int32.ofInt 1) lv8 _ hS ⟨lk_find hk9 rfl, lk_find hk9 rfl, lk_find hk9 rfl, trivial⟩ h
      | false =>
        have h := cd_f hb7 h
        refine py_ic (pc := 26) (len := 3) false rfl hb7 ?_
        refine py_its (pc := 29) (pc1 := 30) (lv1 := lv) (st1 := [.int (Int32.ofInt 0)]) 1 (fun _ _ _ _ => rfl) ?_
        have h := Option.some.inj h
        subst h
        exact py_ir (pc := 30) (len := 1) (ty := .boolean) rfl rfl (by decide) hS
noncomputable def fn_X_areSlips (a0 : Int64) (a1 : Int32) (hp : px_H) : Option (Int32) :=
  bif px_cmp .lt a1 0 then
    some (Int32.ofInt 0)
  else
    bif px_cmp .le a1 (Int8.ofInt 10).toInt32 then
      fn_X_areSlips_L14 a0 a1 hp fu (Int32.ofInt 0)
    else
      some (Int32.ofInt 0)
theorem fx_X_areSlips {a0 : Int64} {a1 : Int32} {hp : px_H} {res : Int32} (hS : oS hp) (h : fn_X_areSlips a0 a1 hp = some res) : px_C nm_T nm_P mi_X_areSlips [.long a0, .int a1] hp (some (.int res)) hp ∧ oS hp := by
  unfold fn_X_areSlips at h
  refine py_C (M := mm_X_areSlips) rfl (Nat.le_of_ble_eq_true rfl) ?_
  show px_Y mm_X_areSlips 0 [(0, .long a0), (2, .int a1)] [] hp _ _
  refine py_its (pc := 0) (pc1 := 1) (lv1 := [(0, .long a0), (2, .int a1)]) (st1 := [.int a1]) 1 (fun _ _ _ _ => rfl) ?_
  cases hb1 : px_cmp .lt a1 0 with
  | true =>
    have h := cd_t hb1 h
    refine py_if (pc := 1) (len := 3) true rfl hb1 ?_
    refine py_its (pc := 10) (pc1 := 11) (lv1 := [(0, .long a0), (2, .int a1)]) (st1 := [.int (Int32.ofInt 0)]) 1 (fun _ _ _ _ => rfl) ?_
    have h := Option.some.inj h
    subst h
    exact py_ir (pc := 11) (len := 1) (ty := .boolean) rfl rfl (by decide) hS
  | false =>
    have h := cd_f hb1 h
    refine py_if (pc := 1) (len := 3) false rfl hb1 ?_
    refine py_its (pc := 4) (pc1 := 7) (lv1 := [(0, .long a0), (2, .int a1)]) (st1 := [.int (Int8.ofInt 10).toInt32, .int a1]) 2 (fun _ _ _ _ => rfl) ?_
    cases hb2 : px_cmp .le a1 (Int8.ofInt 10).toInt32 with
    | true =>
      have h := cd_t hb2 h
      refine py_ic (pc := 7) (len := 3) true rfl hb2 ?_
      refine py_its (pc := 12) (pc1 := 14) (lv1 := [(3, .int (Int32.ofInt 0)), (0, .long a0), (2, .int a1)]) (st1 := []) 2 (fun _ _ _ _ => rfl) ?_
      exact fl_X_areSlips_L14 fu (Int32.ofInt 0) [(3, .int (Int32.ofInt 0)), (0, .long a0), (2, .int a1)] _ hS ⟨rfl, rfl, rfl, trivial⟩ h
    | false =>
      have h := cd_f hb2 h
      refine py_ic (pc := 7) (len := 3) false rfl hb2 ?_
      refine py_its (pc := 10) (pc1 := 11) (lv1 := [(0, .long a0), (2, .int a1)]) (st1 := [.int (Int32.ofInt 0)]) 1 (fun _ _ _ _ => rfl) ?_
      have h := Option.some.inj h
      subst h
      exact py_ir (pc := 11) (len := 1) (ty := .boolean) rfl rfl (by decide) hS
/-! Chest_copy -/
noncomputable def fn_Chest_copy (c0 : Nat) (c1 : Nat) (hp : px_H) : Option (px_H) :=
  sb (wF hp c0 0 (.long (gL hp c1 0))) fun h1 =>
  sb (wF h1 c0 1 (.int (gI h1 c1 1))) fun h3 =>
  sb (wF h3 c0 2 (.int (gI h3 c1 2))) fun h5 =>
  some h5
theorem fx_Chest_copy {c0 : Nat} {c1 : Nat} {hp : px_H} {res : px_H} (hc0 : c0 ∈ [19, 20, 47, 66, 67, 68]) (hc1 : c1 ∈ [19, 20, 47, 66, 67, 68]) (hS : oS hp) (h : fn_Chest_copy c0 c1 hp = some res) : px_C nm_T nm_P mi_Chest_copy [.ref c0, .ref c1] hp none res ∧ oS res := by
  unfold fn_Chest_copy at h
  refine py_C (M := mm_Chest_copy) rfl (Nat.le_of_ble_eq_true rfl) ?_
  show px_Y mm_Chest_copy 0 [(0, .ref c0), (1, .ref c1)] [] hp _ _
  refine py_its (pc := 0) (pc1 := 2) (lv1 := [(0, .ref c0), (1, .ref c1)]) (st1 := [.ref c1, .ref c0]) 2 (fun _ _ _ _ => rfl) ?_
  refine py_gL (pc := 2) (len := 3) (cs := [19, 20, 47, 66, 67, 68]) rfl rfl rfl hc1 hS ?_
  have h := sb_e h
  refine py_pL (pc := 5) (len := 3) (cs := [19, 20, 47, 66, 67, 68]) rfl rfl rfl hc0 hS rfl rfl rfl rfl ?_
  have hS2 : oS (wF hp c0 0 (.long (gL hp c1 0))) := oS_wL (cs := [19, 20, 47, 66, 67, 68]) (ci := 0) rfl hc0 hS
  generalize (wF hp c0 0 (.long (gL hp c1 0))) = h1 at h hS2 ⊢
  refine py_its (pc := 8) (pc1 := 10) (lv1 := [(0, .ref c0), (1, .ref c1)]) (st1 := [.ref c1, .ref c0]) 2 (fun _ _ _ _ => rfl) ?_
  refine py_gI (pc := 10) (len := 3) (cs := [19, 20, 47, 66, 67, 68]) rfl rfl rfl hc1 hS2 ?_
  have h := sb_e h
  refine py_pI (pc := 13) (len := 3) (cs := [19, 20, 47, 66, 67, 68]) rfl rfl rfl hc0 hS2 rfl rfl rfl rfl ?_
  have hS4 : oS (wF h1 c0 1 (.int (gI h1 c1 1))) := oS_wI (cs := [19, 20, 47, 66, 67, 68]) (ci := 0) rfl hc0 hS2
  generalize (wF h1 c0 1 (.int (gI h1 c1 1))) = h3 at h hS4 ⊢
  refine py_its (pc := 16) (pc1 := 18) (lv1 := [(0, .ref c0), (1, .ref c1)]) (st1 := [.ref c1, .ref c0]) 2 (fun _ _ _ _ => rfl) ?_
  refine py_gI (pc := 18) (len := 3) (cs := [19, 20, 47, 66, 67, 68]) rfl rfl rfl hc1 hS4 ?_
  have h := sb_e h
  refine py_pI (pc := 21) (len := 3) (cs := [19, 20, 47, 66, 67, 68]) rfl rfl rfl hc0 hS4 rfl rfl rfl rfl ?_
  have hS6 : oS (wF h3 c0 2 (.int (gI h3 c1 2))) := oS_wI (cs := [19, 20, 47, 66, 67, 68]) (ci := 0) rfl hc0 hS4
  generalize (wF h3 c0 2 (.int (gI h3 c1 2))) = h5 at h hS6 ⊢
  have h := Option.some.inj h
  subst h
  exact py_rt (pc := 24) (len := 1) rfl rfl hS6
/-! X_follow -/
noncomputable def fb_X_follow_L29 (v1 : Int64) (v3 : Int32) (rc : Int32 → px_H → Option (Int32 × px_H)) (v4 : Int32) (hp : px_H) : Option (Int32 × px_H) :=
  bif px_cmp .ge v4 v3 then
    some (v3, hp)
  else
    (fn_X_slipAt v1 v4 hp).bind fun q14 =>
    (fn_Chest_isOver 20 hp).bind fun q19 =>
    bif px_cmp .ne q19 0 then
      some (v4, hp)
    else
      (fn_Chest_part 20 (gI hp 21 5) hp).bind fun q23 =>
      bif px_cmp .ne ((q23 >>> (q14 &&& 31)) &&& (Int32.ofInt 1)) 0 then
        (fn_Chest_part 20 (gI hp 21 5) hp).bind fun q27 =>
        (fn_Chest_part 20 (Int32.ofInt 5) hp).bind fun q30 =>
        (fn_Course_foretell q27 q30 (gI hp 20 1) hp).bind fun q33 =>
        (fn_Chest_takeOut 20 q14 q33).bind fun q37 =>
        rc (v4 + Int32.ofInt 1) q37.2
      else
        some (v4, hp)
noncomputable def fn_X_follow_L29 (v1 : Int64) (v3 : Int32) : Nat → Int32 → px_H → Option (Int32 × px_H)
  | 0 => fun _ _ => none
  | n + 1 => fb_X_follow_L29 v1 v3 (fn_X_follow_L29 v1 v3 n)
theorem fl_X_follow_L29 {v1 : Int64} {v3 : Int32}  : ∀ (n : Nat) (v4 : Int32) (hp : px_H) (lv : List (Nat × Value)) (res : Int32 × px_H), oS hp → lk lv [(0, .ref 0), (1, .long v1), (3, .int v3), (4, .int v4)] → fn_X_follow_L29 v1 v3 n v4 hp = some res → px_Y mm_X_follow 29 lv [] hp (some (.int res.1)) res.2 := by
  intro n
  induction n with
  | zero =>
    intro v4 hp lv res hS hk h
    cases h
  | succ n ih =>
    intro v4 hp lv res hS hk h
    have h : fb_X_follow_L29 v1 v3 (fn_X_follow_L29 v1 v3 n) v4 hp = some res := h
    unfold fb_X_follow_L29 at h
    refine py_il (pc := 29) (len := 2) (j := 4) rfl hk rfl ?_
    refine py_iln (pc := 31) (len := 1) (j := 3) rfl hk rfl ?_
    cases hb13 : px_cmp .ge v4 v3 with
    | true =>
      have h := cd_t hb13 h
      refine py_ic (pc := 32) (len := 3) true rfl hb13 ?_
      refine py_iln (pc := 138) (len := 1) (j := 3) rfl hk rfl ?_
      have h := Option.some.inj h
      subst h
      exact py_ir (pc := 139) (len := 1) (ty := .int) rfl rfl rfl hS
    | false =>
      have h := cd_f hb13 h
      refine py_ic (pc := 32) (len := 3) false rfl hb13 ?_
      refine py_lln (pc := 35) (len := 1) (j := 1) rfl hk rfl ?_
      refine py_il (pc := 36) (len := 2) (j := 4) rfl hk rfl ?_
      obtain ⟨q14, hq15, h⟩ := bd_e h
      have hC16 := (fx_X_slipAt hS hq15).1
      refine py_st (pc := 38) (mi := mi_X_slipAt) (N := mm_X_slipAt) rfl rfl rfl (Nat.le_of_ble_eq_true rfl) (Nat.le_of_ble_eq_true rfl) rfl rfl hC16 ?_
      show px_Y mm_X_follow 41 lv [.int q14] hp _ _
      refine py_sti (pc := 41) (len := 2) (j := 5) rfl rfl hk (fun lv17 hk18 => ?_)
      have hk18 : lk lv17 [(5, .int q14), (0, .ref 0), (1, .long v1), (3, .int v3), (4, .int v4)] := hk18
      refine py_aln (pc := 43) (len := 1) (j := 0) rfl hk18 rfl ?_
      refine py_g1 20 (pc := 44) (len := 3) (cs := [0]) rfl rfl rfl List.mem_cons_self hS ?_
      refine py_aln (pc := 47) (len := 1) (j := 0) rfl hk18 rfl ?_
      refine py_g1 21 (pc := 48) (len := 3) (cs := [0]) rfl rfl rfl List.mem_cons_self hS ?_
      obtain ⟨q19, hq20, h⟩ := bd_e h
      have hC21 := (fx_Chest_isOver (List.mem_of_elem_eq_true rfl) hS hq20).1
      refine py_vi (pc := 51) (mi := mi_Chest_isOver) (cs := [20]) (N := mm_Chest_isOver) rfl rfl rfl rfl List.mem_cons_self hS rfl (Nat.le_of_ble_eq_true rfl) (Nat.le_of_ble_eq_true rfl) rfl rfl hC21 ?_
      show px_Y mm_X_follow 54 lv17 [.int q19] hp _ _
      cases hb22 : px_cmp .ne q19 0 with
      | true =>
        have h := cd_t hb22 h
        refine py_if (pc := 54) (len := 3) true rfl hb22 ?_
        refine py_il (pc := 79) (len := 2) (j := 4) rfl hk18 rfl ?_
        have h := Option.some.inj h
        subst h
        exact py_ir (pc := 81) (len := 1) (ty := .int) rfl rfl rfl hS
      | false =>
        have h := cd_f hb22 h
        refine py_if (pc := 54) (len := 3) false rfl hb22 ?_
        refine py_aln (pc := 57) (len := 1) (j := 0) rfl hk18 rfl ?_
        refine py_g1 20 (pc := 58) (len := 3) (cs := [0]) rfl rfl rfl List.mem_cons_self hS ?_
        refine py_aln (pc := 61) (len := 1) (j := 0) rfl hk18 rfl ?_
        refine py_g1 21 (pc := 62) (len := 3) (cs := [0]) rfl rfl rfl List.mem_cons_self hS ?_
        refine py_gI (pc := 65) (len := 3) (cs := [21]) rfl rfl rfl List.mem_cons_self hS ?_
        obtain ⟨q23, hq24, h⟩ := bd_e h
        have hC25 := (fx_Chest_part (List.mem_of_elem_eq_true rfl) hS hq24).1
        refine py_vi (pc := 68) (mi := mi_Chest_part) (cs := [20]) (N := mm_Chest_part) rfl rfl rfl rfl List.mem_cons_self hS rfl (Nat.le_of_ble_eq_true rfl) (Nat.le_of_ble_eq_true rfl) rfl rfl hC25 ?_
        show px_Y mm_X_follow 71 lv17 [.int q23] hp _ _
        refine py_il (pc := 71) (len := 2) (j := 5) rfl hk18 rfl ?_
        refine py_its (pc := 73) (pc1 := 76) (lv1 := lv17) (st1 := [.int ((q23 >>> (q14 &&& 31)) &&& (Int32.ofInt 1))]) 3 (fun _ _ _ _ => rfl) ?_
        cases hb26 : px_cmp .ne ((q23 >>> (q14 &&& 31)) &&& (Int32.ofInt 1)) 0 with
        | true =>
          have h := cd_t hb26 h
          refine py_if (pc := 76) (len := 3) true rfl hb26 ?_
          refine py_aln (pc := 82) (len := 1) (j := 0) rfl hk18 rfl ?_
          refine py_g1 21 (pc := 83) (len := 3) (cs := [0]) rfl rfl rfl List.mem_cons_self hS ?_
          refine py_aln (pc := 86) (len := 1) (j := 0) rfl hk18 rfl ?_
          refine py_g1 20 (pc := 87) (len := 3) (cs := [0]) rfl rfl rfl List.mem_cons_self hS ?_
          refine py_aln (pc := 90) (len := 1) (j := 0) rfl hk18 rfl ?_
          refine py_g1 21 (pc := 91) (len := 3) (cs := [0]) rfl rfl rfl List.mem_cons_self hS ?_
          refine py_gI (pc := 94) (len := 3) (cs := [21]) rfl rfl rfl List.mem_cons_self hS ?_
          obtain ⟨q27, hq28, h⟩ := bd_e h
          have hC29 := (fx_Chest_part (List.mem_of_elem_eq_true rfl) hS hq28).1
          refine py_vi (pc := 97) (mi := mi_Chest_part) (cs := [20]) (N := mm_Chest_part) rfl rfl rfl rfl List.mem_cons_self hS rfl (Nat.le_of_ble_eq_true rfl) (Nat.le_of_ble_eq_true rfl) rfl rfl hC29 ?_
          show px_Y mm_X_follow 100 lv17 [.int q27, .ref 21] hp _ _
          refine py_aln (pc := 100) (len := 1) (j := 0) rfl hk18 rfl ?_
          refine py_g1 20 (pc := 101) (len := 3) (cs := [0]) rfl rfl rfl List.mem_cons_self hS ?_
          refine py_its (pc := 104) (pc1 := 105) (lv1 := lv17) (st1 := [.int (Int32.ofInt 5), .ref 20, .int q27, .ref 21]) 1 (fun _ _ _ _ => rfl) ?_
          obtain ⟨q30, hq31, h⟩ := bd_e h
          have hC32 := (fx_Chest_part (List.mem_of_elem_eq_true rfl) hS hq31).1
          refine py_vi (pc := 105) (mi := mi_Chest_part) (cs := [20]) (N := mm_Chest_part) rfl rfl rfl rfl List.mem_cons_self hS rfl (Nat.le_of_ble_eq_true rfl) (Nat.le_of_ble_eq_true rfl) rfl rfl hC32 ?_
          show px_Y mm_X_follow 108 lv17 [.int q30, .int q27, .ref 21] hp _ _
          refine py_aln (pc := 108) (len := 1) (j := 0) rfl hk18 rfl ?_
          refine py_g1 20 (pc := 109) (len := 3) (cs := [0]) rfl rfl rfl List.mem_cons_self hS ?_
          refine py_gI (pc := 112) (len := 3) (cs := [20]) rfl rfl rfl List.mem_cons_self hS ?_
          obtain ⟨q33, hq34, h⟩ := bd_e h
          obtain ⟨hC35, hS36⟩ := fx_Course_foretell hS hq34
          refine py_vi (pc := 115) (mi := mi_Course_foretell) (cs := [21]) (N := mm_Course_foretell) rfl rfl rfl rfl List.mem_cons_self hS rfl (Nat.le_of_ble_eq_true rfl) (Nat.le_of_ble_eq_true rfl) rfl rfl hC35 ?_
          show px_Y mm_X_follow 118 lv17 [] q33 _ _
          refine py_aln (pc := 118) (len := 1) (j := 0) rfl hk18 rfl ?_
          refine py_g1 20 (pc := 119) (len := 3) (cs := [0]) rfl rfl rfl List.mem_cons_self hS36 ?_
          refine py_aln (pc := 122) (len := 1) (j := 0) rfl hk18 rfl ?_
          refine py_g1 21 (pc := 123) (len := 3) (cs := [0]) rfl rfl rfl List.mem_cons_self hS36 ?_
          refine py_il (pc := 126) (len := 2) (j := 5) rfl hk18 rfl ?_
          obtain ⟨q37, hq38, h⟩ := bd_e h
          obtain ⟨hC39, hS40⟩ := fx_Chest_takeOut (List.mem_of_elem_eq_true rfl) hS36 hq38
          refine py_vi (pc := 128) (mi := mi_Chest_takeOut) (cs := [20]) (N := mm_Chest_takeOut) rfl rfl rfl rfl List.mem_cons_self hS36 rfl (Nat.le_of_ble_eq_true rfl) (Nat.le_of_ble_eq_true rfl) rfl rfl hC39 ?_
          show px_Y mm_X_follow 131 lv17 [.int q37.1] q37.2 _ _
          refine py_its (pc := 131) (pc1 := 132) (lv1 := lv17) (st1 := []) 1 (fun _ _ _ _ => rfl) ?_
          refine py_inc (pc := 132) (len := 3) (j := 4) (n := 1) rfl rfl hk18 rfl (fun lv41 hk42 => ?_)
          have hk42 : lk lv41 [(4, .int (v4 + Int32.ofInt 1)), (5, .int q14), (0, .ref 0), (1, .long v1), (3, .int v3)] := hk42
          refine py_its (pc := 135) (pc1 := 29) (lv1 := lv41) (st1 := []) 1 (fun _ _ _ _ => rfl) ?_
          exact ih (v4 + Int32.ofInt 1) q37.2 lv41 _ hS40 ⟨lk_find hk42 rfl, lk_find hk42 rfl, lk_find hk42 rfl, lk_find hk42 rfl, trivial⟩ h
        | false =>
          have h := cd_f hb26 h
          refine py_if (pc := 76) (len := 3) false rfl hb26 ?_
          refine py_il (pc := 79) (len := 2) (j := 4) rfl hk18 rfl ?_
          have h := Option.some.inj h
          subst h
          exact py_ir (pc := 81) (len := 1) (ty := .int) rfl rfl rfl hS
noncomputable def fn_X_follow (a1 : Int64) (a2 : Int32) (hp : px_H) : Option (Int32 × px_H) :=
  (fn_X_readyNow hp).bind fun q1 =>
  (fn_Chest_copy 20 19 q1).bind fun q5 =>
  (fn_Chest_open 20 q5).bind fun q9 =>
  fn_X_follow_L29 a1 a2 fu (Int32.ofInt 0) q9
theorem fx_X_follow {a1 : Int64} {a2 : Int32} {hp : px_H} {res : Int32 × px_H} (hS : oS hp) (h : fn_X_follow a1 a2 hp = some res) : px_C nm_T nm_P mi_X_follow [.ref 0, .long a1, .int a2] hp (some (.int res.1)) res.2 ∧ oS res.2 := by
  unfold fn_X_follow at h
  refine py_C (M := mm_X_follow) rfl (Nat.le_of_ble_eq_true rfl) ?_
  show px_Y mm_X_follow 0 [(0, .ref 0), (1, .long a1), (3, .int a2)] [] hp _ _
  refine py_its (pc := 0) (pc1 := 1) (lv1 := [(0, .ref 0), (1, .long a1), (3, .int a2)]) (st1 := [.ref 0]) 1 (fun _ _ _ _ => rfl) ?_
  obtain ⟨q1, hq2, h⟩ := bd_e h
  obtain ⟨hC3, hS4⟩ := fx_X_readyNow hS hq2
  refine py_vi (pc := 1) (mi := mi_X_readyNow) (cs := [0]) (N := mm_X_readyNow) rfl rfl rfl rfl List.mem_cons_self hS rfl (Nat.le_of_ble_eq_true rfl) (Nat.le_of_ble_eq_true rfl) rfl rfl hC3 ?_
  show px_Y mm_X_follow 4 [(0, .ref 0), (1, .long a1), (3, .int a2)] [] q1 _ _
  refine py_its (pc := 4) (pc1 := 5) (lv1 := [(0, .ref 0), (1, .long a1), (3, .int a2)]) (st1 := [.ref 0]) 1 (fun _ _ _ _ => rfl) ?_
  refine py_g1 20 (pc := 5) (len := 3) (cs := [0]) rfl rfl rfl List.mem_cons_self hS4 ?_
  refine py_its (pc := 8) (pc1 := 9) (lv1 := [(0, .ref 0), (1, .long a1), (3, .int a2)]) (st1 := [.ref 0, .ref 20]) 1 (fun _ _ _ _ => rfl) ?_
  refine py_g1 19 (pc := 9) (len := 3) (cs := [0]) rfl rfl rfl List.mem_cons_self hS4 ?_
  obtain ⟨q5, hq6, h⟩ := bd_e h
  obtain ⟨hC7, hS8⟩ := fx_Chest_copy (List.mem_of_elem_eq_true rfl) (List.mem_of_elem_eq_true rfl) hS4 hq6
  refine py_vi (pc := 12) (mi := mi_Chest_copy) (cs := [20]) (N := mm_Chest_copy) rfl rfl rfl rfl List.mem_cons_self hS4 rfl (Nat.le_of_ble_eq_true rfl) (Nat.le_of_ble_eq_true rfl) rfl rfl hC7 ?_
  show px_Y mm_X_follow 15 [(0, .ref 0), (1, .long a1), (3, .int a2)] [] q5 _ _
  refine py_its (pc := 15) (pc1 := 16) (lv1 := [(0, .ref 0), (1, .long a1), (3, .int a2)]) (st1 := [.ref 0]) 1 (fun _ _ _ _ => rfl) ?_
  refine py_g1 20 (pc := 16) (len := 3) (cs := [0]) rfl rfl rfl List.mem_cons_self hS8 ?_
  refine py_its (pc := 19) (pc1 := 20) (lv1 := [(0, .ref 0), (1, .long a1), (3, .int a2)]) (st1 := [.ref 0, .ref 20]) 1 (fun _ _ _ _ => rfl) ?_
  refine py_g1 21 (pc := 20) (len := 3) (cs := [0]) rfl rfl rfl List.mem_cons_self hS8 ?_
  obtain ⟨q9, hq10, h⟩ := bd_e h
  obtain ⟨hC11, hS12⟩ := fx_Chest_open (List.mem_of_elem_eq_true rfl) hS8 hq10
  refine py_vi (pc := 23) (mi := mi_Chest_open) (cs := [20]) (N := mm_Chest_open) rfl rfl rfl rfl List.mem_cons_self hS8 rfl (Nat.le_of_ble_eq_true rfl) (Nat.le_of_ble_eq_true rfl) rfl rfl hC11 ?_
  show px_Y mm_X_follow 26 [(0, .ref 0), (1, .long a1), (3, .int a2)] [] q9 _ _
  refine py_its (pc := 26) (pc1 := 29) (lv1 := [(4, .int (Int32.ofInt 0)), (0, .ref 0), (1, .long a1), (3, .int a2)]) (st1 := []) 2 (fun _ _ _ _ => rfl) ?_
  exact fl_X_follow_L29 fu (Int32.ofInt 0) q9 [(4, .int (Int32.ofInt 0)), (0, .ref 0), (1, .long a1), (3, .int a2)] _ hS12 ⟨rfl, rfl, rfl, rfl, trivial⟩ h
/-! X_judge -/
noncomputable def fn_X_judge (a1 : Int64) (a2 : Int32) (hp : px_H) : Option (Int32 × px_H) :=
  (fn_X_isDrawingLeft hp).bind fun q1 =>
  bif px_cmp .eq q1 0 then
    some ((Int32.ofInt (-1)), hp)
  else
    (fn_X_areSlips a1 a2 hp).bind fun q5 =>
    bif px_cmp .ne q5 0 then
      (fn_X_follow a1 a2 hp).bind fun q9 =>
      some (q9.1, q9.2)
    else
      some ((Int32.ofInt (-1)), hp)
theorem fx_X_judge {a1 : Int64} {a2 : Int32} {hp : px_H} {res : Int32 × px_H} (hS : oS hp) (h : fn_X_judge a1 a2 hp = some res) : px_C nm_T nm_P mi_X_judge [.ref 0, .long a1, .int a2] hp (some (.int res.1)) res.2 ∧ oS res.2 := by
  unfold fn_X_judge at h
  refine py_C (M := mm_X_judge) rfl (Nat.le_of_ble_eq_true rfl) ?_
  show px_Y mm_X_judge 0 [(0, .ref 0), (1, .long a1), (3, .int a2)] [] hp _ _
  refine py_its (pc := 0) (pc1 := 1) (lv1 := [(0, .ref 0), (1, .long a1), (3, .int a2)]) (st1 := [.ref 0]) 1 (fun _ _ _ _ => rfl) ?_
  obtain ⟨q1, hq2, h⟩ := bd_e h
  have hC3 := (fx_X_isDrawingLeft hS hq2).1
  refine py_vi (pc := 1) (mi := mi_X_isDrawingLeft) (cs := [0]) (N := mm_X_isDrawingLeft) rfl rfl rfl rfl List.mem_cons_self hS rfl (Nat.le_of_ble_eq_true rfl) (Nat.le_of_ble_eq_true rfl) rfl rfl hC3 ?_
  show px_Y mm_X_judge 4 [(0, .ref 0), (1, .long a1), (3, .int a2)] [.int q1] hp _ _
  cases hb4 : px_cmp .eq q1 0 with
  | true =>
    have h := cd_t hb4 h
    refine py_if (pc := 4) (len := 3) true rfl hb4 ?_
    refine py_its (pc := 15) (pc1 := 16) (lv1 := [(0, .ref 0), (1, .long a1), (3, .int a2)]) (st1 := [.int (Int32.ofInt (-1))]) 1 (fun _ _ _ _ => rfl) ?_
    have h := Option.some.inj h
    subst h
    exact py_ir (pc := 16) (len := 1) (ty := .int) rfl rfl rfl hS
  | false =>
    have h := cd_f hb4 h
    refine py_if (pc := 4) (len := 3) false rfl hb4 ?_
    refine py_its (pc := 7) (pc1 := 9) (lv1 := [(0, .ref 0), (1, .long a1), (3, .int a2)]) (st1 := [.int a2, .long a1]) 2 (fun _ _ _ _ => rfl) ?_
    obtain ⟨q5, hq6, h⟩ := bd_e h
    have hC7 := (fx_X_areSlips hS hq6).1
    refine py_st (pc := 9) (mi := mi_X_areSlips) (N := mm_X_areSlips) rfl rfl rfl (Nat.le_of_ble_eq_true rfl) (Nat.le_of_ble_eq_true rfl) rfl rfl hC7 ?_
    show px_Y mm_X_judge 12 [(0, .ref 0), (1, .long a1), (3, .int a2)] [.int q5] hp _ _
    cases hb8 : px_cmp .ne q5 0 with
    | true =>
      have h := cd_t hb8 h
      refine py_if (pc := 12) (len := 3) true rfl hb8 ?_
      refine py_its (pc := 17) (pc1 := 20) (lv1 := [(0, .ref 0), (1, .long a1), (3, .int a2)]) (st1 := [.int a2, .long a1, .ref 0]) 3 (fun _ _ _ _ => rfl) ?_
      obtain ⟨q9, hq10, h⟩ := bd_e h
      obtain ⟨hC11, hS12⟩ := fx_X_follow hS hq10
      refine py_vi (pc := 20) (mi := mi_X_follow) (cs := [0]) (N := mm_X_follow) rfl rfl rfl rfl List.mem_cons_self hS rfl (Nat.le_of_ble_eq_true rfl) (Nat.le_of_ble_eq_true rfl) rfl rfl hC11 ?_
      show px_Y mm_X_judge 23 [(0, .ref 0), (1, .long a1), (3, .int a2)] [.int q9.1] q9.2 _ _
      have h := Option.some.inj h
      subst h
      exact py_ir (pc := 23) (len := 1) (ty := .int) rfl rfl rfl hS12
    | false =>
      have h := cd_f hb8 h
      refine py_if (pc := 12) (len := 3) false rfl hb8 ?_
      refine py_its (pc := 15) (pc1 := 16) (lv1 := [(0, .ref 0), (1, .long a1), (3, .int a2)]) (st1 := [.int (Int32.ofInt (-1))]) 1 (fun _ _ _ _ => rfl) ?_
      have h := Option.some.inj h
      subst h
      exact py_ir (pc := 16) (len := 1) (ty := .int) rfl rfl rfl hS
/-! X_hold -/
noncomputable def fn_X_hold (a1 : Int64) (a2 : Int32) (hp : px_H) : Option (Int32 × px_H) :=
  (fn_X_isDrawingLeft hp).bind fun q1 =>
  bif px_cmp .eq q1 0 then
    some ((Int32.ofInt 0), hp)
  else
    (fn_X_areSlips a1 a2 hp).bind fun q5 =>
    bif px_cmp .ne q5 0 then
      (fn_X_follow a1 a2 hp).bind fun q9 =>
      bif px_cmp .ne q9.1 a2 then
        some ((Int32.ofInt 0), q9.2)
      else
        (fn_Chest_isOver 20 q9.2).bind fun q14 =>
        bif px_cmp .ne q14 0 then
          (fn_Chest_close 20 q9.2).bind fun q18 =>
          (fn_Chest_copy 19 20 q18).bind fun q22 =>
          sb (wF q22 19 2 (.int ((gI q22 19 2) + (Int32.ofInt 1)))) fun h26 =>
          some ((Int32.ofInt 1), h26)
        else
          some ((Int32.ofInt 0), q9.2)
    else
      some ((Int32.ofInt 0), hp)
theorem fx_X_hold {a1 : Int64} {a2 : Int32} {hp : px_H} {res : Int32 × px_H} (hS : oS hp) (h : fn_X_hold a1 a2 hp = some res) : px_C nm_T nm_P mi_X_hold [.ref 0, .long a1, .int a2] hp (some (.int res.1)) res.2 ∧ oS res.2 := by
  unfold fn_X_hold at h
  refine py_C (M := mm_X_hold) rfl (Nat.le_of_ble_eq_true rfl) ?_
  show px_Y mm_X_hold 0 [(0, .ref 0), (1, .long a1), (3, .int a2)] [] hp _ _
  refine py_its (pc := 0) (pc1 := 1) (lv1 := [(0, .ref 0), (1, .long a1), (3, .int a2)]) (st1 := [.ref 0]) 1 (fun _ _ _ _ => rfl) ?_
  obtain ⟨q1, hq2, h⟩ := bd_e h
  have hC3 := (fx_X_isDrawingLeft hS hq2).1
  refine py_vi (pc := 1) (mi := mi_X_isDrawingLeft) (cs := [0]) (N := mm_X_isDrawingLeft) rfl rfl rfl rfl List.mem_cons_self hS rfl (Nat.le_of_ble_eq_true rfl) (Nat.le_of_ble_eq_true rfl) rfl rfl hC3 ?_
  show px_Y mm_X_hold 4 [(0, .ref 0), (1, .long a1), (3, .int a2)] [.int q1] hp _ _
  cases hb4 : px_cmp .eq q1 0 with
  | true =>
    have h := cd_t hb4 h
    refine py_if (pc := 4) (len := 3) true rfl hb4 ?_
    refine py_its (pc := 15) (pc1 := 16) (lv1 := [(0, .ref 0), (1, .long a1), (3, .int a2)]) (st1 := [.int (Int32.ofInt 0)]) 1 (fun _ _ _ _ => rfl) ?_
    have h := Option.some.inj h
    subst h
    exact py_ir (pc := 16) (len := 1) (ty := .boolean) rfl rfl (by decide) hS
  | false =>
    have h := cd_f hb4 h
    refine py_if (pc := 4) (len := 3) false rfl hb4 ?_
    refine py_its (pc := 7) (pc1 := 9) (lv1 := [(0, .ref 0), (1, .long a1), (3, .int a2)]) (st1 := [.int a2, .long a1]) 2 (fun _ _ _ _ => rfl) ?_
    obtain ⟨q5, hq6, h⟩ := bd_e h
    have hC7 := (fx_X_areSlips hS hq6).1
    refine py_st (pc := 9) (mi := mi_X_areSlips) (N := mm_X_areSlips) rfl rfl rfl (Nat.le_of_ble_eq_true rfl) (Nat.le_of_ble_eq_true rfl) rfl rfl hC7 ?_
    show px_Y mm_X_hold 12 [(0, .ref 0), (1, .long a1), (3, .int a2)] [.int q5] hp _ _
    cases hb8 : px_cmp .ne q5 0 with
    | true =>
      have h := cd_t hb8 h
      refine py_if (pc := 12) (len := 3) true rfl hb8 ?_
      refine py_its (pc := 17) (pc1 := 20) (lv1 := [(0, .ref 0), (1, .long a1), (3, .int a2)]) (st1 := [.int a2, .long a1, .ref 0]) 3 (fun _ _ _ _ => rfl) ?_
      obtain ⟨q9, hq10, h⟩ := bd_e h
      obtain ⟨hC11, hS12⟩ := fx_X_follow hS hq10
      refine py_vi (pc := 20) (mi := mi_X_follow) (cs := [0]) (N := mm_X_follow) rfl rfl rfl rfl List.mem_cons_self hS rfl (Nat.le_of_ble_eq_true rfl) (Nat.le_of_ble_eq_true rfl) rfl rfl hC11 ?_
      show px_Y mm_X_hold 23 [(0, .ref 0), (1, .long a1), (3, .int a2)] [.int q9.1] q9.2 _ _
      refine py_its (pc := 23) (pc1 := 24) (lv1 := [(0, .ref 0), (1, .long a1), (3, .int a2)]) (st1 := [.int a2, .int q9.1]) 1 (fun _ _ _ _ => rfl) ?_
      cases hb13 : px_cmp .ne q9.1 a2 with
      | true =>
        have h := cd_t hb13 h
        refine py_ic (pc := 24) (len := 3) true rfl hb13 ?_
        refine py_its (pc := 41) (pc1 := 42) (lv1 := [(0, .ref 0), (1, .long a1), (3, .int a2)]) (st1 := [.int (Int32.ofInt 0)]) 1 (fun _ _ _ _ => rfl) ?_
        have h := Option.some.inj h
        subst h
        exact py_ir (pc := 42) (len := 1) (ty := .boolean) rfl rfl (by decide) hS12
      | false =>
        have h := cd_f hb13 h
        refine py_ic (pc := 24) (len := 3) false rfl hb13 ?_
        refine py_its (pc := 27) (pc1 := 28) (lv1 := [(0, .ref 0), (1, .long a1), (3, .int a2)]) (st1 := [.ref 0]) 1 (fun _ _ _ _ => rfl) ?_
        refine py_g1 20 (pc := 28) (len := 3) (cs := [0]) rfl rfl rfl List.mem_cons_self hS12 ?_
        refine py_its (pc := 31) (pc1 := 32) (lv1 := [(0, .ref 0), (1, .long a1), (3, .int a2)]) (st1 := [.ref 0, .ref 20]) 1 (fun _ _ _ _ => rfl) ?_
        refine py_g1 21 (pc := 32) (len := 3) (cs := [0]) rfl rfl rfl List.mem_cons_self hS12 ?_
        obtain ⟨q14, hq15, h⟩ := bd_e h
        have hC16 := (fx_Chest_isOver (List.mem_of_elem_eq_true rfl) hS12 hq15).1
        refine py_vi (pc := 35) (mi := mi_Chest_isOver) (cs := [20]) (N := mm_Chest_isOver) rfl rfl rfl rfl List.mem_cons_self hS12 rfl (Nat.le_of_ble_eq_true rfl) (Nat.le_of_ble_eq_true rfl) rfl rfl hC16 ?_
        show px_Y mm_X_hold 38 [(0, .ref 0), (1, .long a1), (3, .int a2)] [.int q14] q9.2 _ _
        cases hb17 : px_cmp .ne q14 0 with
        | true =>
          have h := cd_t hb17 h
          refine py_if (pc := 38) (len := 3) true rfl hb17 ?_
          refine py_its (pc := 43) (pc1 := 44) (lv1 := [(0, .ref 0), (1, .long a1), (3, .int a2)]) (st1 := [.ref 0]) 1 (fun _ _ _ _ => rfl) ?_
          refine py_g1 20 (pc := 44) (len := 3) (cs := [0]) rfl rfl rfl List.mem_cons_self hS12 ?_
          refine py_its (pc := 47) (pc1 := 48) (lv1 := [(0, .ref 0), (1, .long a1), (3, .int a2)]) (st1 := [.ref 0, .ref 20]) 1 (fun _ _ _ _ => rfl) ?_
          refine py_g1 21 (pc := 48) (len := 3) (cs := [0]) rfl rfl rfl List.mem_cons_self hS12 ?_
          obtain ⟨q18, hq19, h⟩ := bd_e h
          obtain ⟨hC20, hS21⟩ := fx_Chest_close (List.mem_of_elem_eq_true rfl) hS12 hq19
          refine py_vi (pc := 51) (mi := mi_Chest_close) (cs := [20]) (N := mm_Chest_close) rfl rfl rfl rfl List.mem_cons_self hS12 rfl (Nat.le_of_ble_eq_true rfl) (Nat.le_of_ble_eq_true rfl) rfl rfl hC20 ?_
          show px_Y mm_X_hold 54 [(0, .ref 0), (1, .long a1), (3, .int a2)] [] q18 _ _
          refine py_its (pc := 54) (pc1 := 55) (lv1 := [(0, .ref 0), (1, .long a1), (3, .int a2)]) (st1 := [.ref 0]) 1 (fun _ _ _ _ => rfl) ?_
          refine py_g1 19 (pc := 55) (len := 3) (cs := [0]) rfl rfl rfl List.mem_cons_self hS21 ?_
          refine py_its (pc := 58) (pc1 := 59) (lv1 := [(0, .ref 0), (1, .long a1), (3, .int a2)]) (st1 := [.ref 0, .ref 19]) 1 (fun _ _ _ _ => rfl) ?_
          refine py_g1 20 (pc := 59) (len := 3) (cs := [0]) rfl rfl rfl List.mem_cons_self hS21 ?_
          obtain ⟨q22, hq23, h⟩ := bd_e h
          obtain ⟨hC24, hS25⟩ := fx_Chest_copy (List.mem_of_elem_eq_true rfl) (List.mem_of_elem_eq_true rfl) hS21 hq23
          refine py_vi (pc := 62) (mi := mi_Chest_copy) (cs := [19]) (N := mm_Chest_copy) rfl rfl rfl rfl List.mem_cons_self hS21 rfl (Nat.le_of_ble_eq_true rfl) (Nat.le_of_ble_eq_true rfl) rfl rfl hC24 ?_
          show px_Y mm_X_hold 65 [(0, .ref 0), (1, .long a1), (3, .int a2)] [] q22 _ _
          refine py_its (pc := 65) (pc1 := 66) (lv1 := [(0, .ref 0), (1, .long a1), (3, .int a2)]) (st1 := [.ref 0]) 1 (fun _ _ _ _ => rfl) ?_
          refine py_g1 19 (pc := 66) (len := 3) (cs := [0]) rfl rfl rfl List.mem_cons_self hS25 ?_
          refine py_its (pc := 69) (pc1 := 70) (lv1 := [(0, .ref 0), (1, .long a1), (3, .int a2)]) (st1 := [.ref 19, .ref 19]) 1 (fun _ _ _ _ => rfl) ?_
          refine py_gI (pc := 70) (len := 3) (cs := [19]) rfl rfl rfl List.mem_cons_self hS25 ?_
          refine py_its (pc := 73) (pc1 := 75) (lv1 := [(0, .ref 0), (1, .long a1), (3, .int a2)]) (st1 := [.int ((gI q22 19 2) + (Int32.ofInt 1)), .ref 19]) 2 (fun _ _ _ _ => rfl) ?_
          have h := sb_e h
          refine py_pI (pc := 75) (len := 3) (cs := [19]) rfl rfl rfl List.mem_cons_self hS25 rfl rfl rfl rfl ?_
          have hS27 : oS (wF q22 19 2 (.int ((gI q22 19 2) + (Int32.ofInt 1)))) := oS_wI (cs := [19]) (ci := 0) rfl List.mem_cons_self hS25
          generalize (wF q22 19 2 (.int ((gI q22 19 2) + (Int32.ofInt 1)))) = h26 at h hS27 ⊢
          refine py_its (pc := 78) (pc1 := 79) (lv1 := [(0, .ref 0), (1, .long a1), (3, .int a2)]) (st1 := [.int (Int32.ofInt 1)]) 1 (fun _ _ _ _ => rfl) ?_
          have h := Option.some.inj h
          subst h
          exact py_ir (pc := 79) (len := 1) (ty := .boolean) rfl rfl (by decide) hS27
        | false =>
          have h := cd_f hb17 h
          refine py_if (pc := 38) (len := 3) false rfl hb17 ?_
          refine py_its (pc := 41) (pc1 := 42) (lv1 := [(0, .ref 0), (1, .long a1), (3, .int a2)]) (st1 := [.int (Int32.ofInt 0)]) 1 (fun _ _ _ _ => rfl) ?_
          have h := Option.some.inj h
          subst h
          exact py_ir (pc := 42) (len := 1) (ty := .boolean) rfl rfl (by decide) hS12
    | false =>
      have h := cd_f hb8 h
      refine py_if (pc := 12) (len := 3) false rfl hb8 ?_
      refine py_its (pc := 15) (pc1 := 16) (lv1 := [(0, .ref 0), (1, .long a1), (3, .int a2)]) (st1 := [.int (Int32.ofInt 0)]) 1 (fun _ _ _ _ => rfl) ?_
      have h := Option.some.inj h
      subst h
      exact py_ir (pc := 16) (len := 1) (ty := .boolean) rfl rfl (by decide) hS
/-! Chest_startAnew -/
noncomputable def fn_Chest_startAnew (c0 : Nat) (a1 : Int32) (a2 : Int32) (hp : px_H) : Option (px_H) :=
  sb (wF hp c0 0 (.long (Int64.ofNat 0))) fun h1 =>
  sb (wF h1 c0 1 (.int (Int32.ofInt 0))) fun h3 =>
  sb (wF h3 c0 2 (.int (Int32.ofInt 0))) fun h5 =>
  (fn_Chest_setPart c0 (Int32.ofInt 0) a1 h5).bind fun q7 =>
  (fn_Chest_setPart c0 (Int32.ofInt 1) a2 q7).bind fun q11 =>
  some q11
theorem fx_Chest_startAnew {c0 : Nat} {a1 : Int32} {a2 : Int32} {hp : px_H} {res : px_H} (hc0 : c0 ∈ [19, 20, 47, 66, 67, 68]) (hS : oS hp) (h : fn_Chest_startAnew c0 a1 a2 hp = some res) : px_C nm_T nm_P mi_Chest_startAnew [.ref c0, .int a1, .int a2] hp none res ∧ oS res := by
  unfold fn_Chest_startAnew at h
  refine py_C (M := mm_Chest_startAnew) rfl (Nat.le_of_ble_eq_true rfl) ?_
  show px_Y mm_Chest_startAnew 0 [(0, .ref c0), (1, .int a1), (2, .int a2)] [] hp _ _
  refine py_its (pc := 0) (pc1 := 2) (lv1 := [(0, .ref c0), (1, .int a1), (2, .int a2)]) (st1 := [.long (Int64.ofNat 0), .ref c0]) 2 (fun _ _ _ _ => rfl) ?_
  have h := sb_e h
  refine py_pL (pc := 2) (len := 3) (cs := [19, 20, 47, 66, 67, 68]) rfl rfl rfl hc0 hS rfl rfl rfl rfl ?_
  have hS2 : oS (wF hp c0 0 (.long (Int64.ofNat 0))) := oS_wL (cs := [19, 20, 47, 66, 67, 68]) (ci := 0) rfl hc0 hS
  generalize (wF hp c0 0 (.long (Int64.ofNat 0))) = h1 at h hS2 ⊢
  refine py_its (pc := 5) (pc1 := 7) (lv1 := [(0, .ref c0), (1, .int a1), (2, .int a2)]) (st1 := [.int (Int32.ofInt 0), .ref c0]) 2 (fun _ _ _ _ => rfl) ?_
  have h := sb_e h
  refine py_pI (pc := 7) (len := 3) (cs := [19, 20, 47, 66, 67, 68]) rfl rfl rfl hc0 hS2 rfl rfl rfl rfl ?_
  have hS4 : oS (wF h1 c0 1 (.int (Int32.ofInt 0))) := oS_wI (cs := [19, 20, 47, 66, 67, 68]) (ci := 0) rfl hc0 hS2
  generalize (wF h1 c0 1 (.int (Int32.ofInt 0))) = h3 at h hS4 ⊢
  refine py_its (pc := 10) (pc1 := 12) (lv1 := [(0, .ref c0), (1, .int a1), (2, .int a2)]) (st1 := [.int (Int32.ofInt 0), .ref c0]) 2 (fun _ _ _ _ => rfl) ?_
  have h := sb_e h
  refine py_pI (pc := 12) (len := 3) (cs := [19, 20, 47, 66, 67, 68]) rfl rfl rfl hc0 hS4 rfl rfl rfl rfl ?_
  have hS6 : oS (wF h3 c0 2 (.int (Int32.ofInt 0))) := oS_wI (cs := [19, 20, 47, 66, 67, 68]) (ci := 0) rfl hc0 hS4
  generalize (wF h3 c0 2 (.int (Int32.ofInt 0))) = h5 at h hS6 ⊢
  refine py_its (pc := 15) (pc1 := 18) (lv1 := [(0, .ref c0), (1, .int a1), (2, .int a2)]) (st1 := [.int a1, .int (Int32.ofInt 0), .ref c0]) 3 (fun _ _ _ _ => rfl) ?_
  obtain ⟨q7, hq8, h⟩ := bd_e h
  obtain ⟨hC9, hS10⟩ := fx_Chest_setPart hc0 hS6 hq8
  refine py_vi (pc := 18) (mi := mi_Chest_setPart) (cs := [19, 20, 47, 66, 67, 68]) (N := mm_Chest_setPart) rfl rfl rfl rfl hc0 hS6 rfl (Nat.le_of_ble_eq_true rfl) (Nat.le_of_ble_eq_true rfl) rfl rfl hC9 ?_
  show px_Y mm_Chest_startAnew 21 [(0, .ref c0), (1, .int a1), (2, .int a2)] [] q7 _ _
  refine py_its (pc := 21) (pc1 := 24) (lv1 := [(0, .ref c0), (1, .int a1), (2, .int a2)]) (st1 := [.int a2, .int (Int32.ofInt 1), .ref c0]) 3 (fun _ _ _ _ => rfl) ?_
  obtain ⟨q11, hq12, h⟩ := bd_e h
  obtain ⟨hC13, hS14⟩ := fx_Chest_setPart hc0 hS10 hq12
  refine py_vi (pc := 24) (mi := mi_Chest_setPart) (cs := [19, 20, 47, 66, 67, 68]) (N := mm_Chest_setPart) rfl rfl rfl rfl hc0 hS10 rfl (Nat.le_of_ble_eq_true rfl) (Nat.le_of_ble_eq_true rfl) rfl rfl hC13 ?_
  show px_Y mm_Chest_startAnew 27 [(0, .ref c0), (1, .int a1), (2, .int a2)] [] q11 _ _
  have h := Option.some.inj h
  subst h
  exact py_rt (pc := 27) (len := 1) rfl rfl hS14
/-! X_begin -/
noncomputable def fn_X_begin  (hp : px_H) : Option (Int32 × px_H) :=
  (fn_Chest_startAnew 19 (aI hp 7 (Int32.ofInt 0).toNatClampNeg) (aI hp 7 (Int32.ofInt 1).toNatClampNeg) hp).bind fun q1 =>
  some ((gI hp 19 2), q1)
theorem fx_X_begin  {hp : px_H} {res : Int32 × px_H} (hS : oS hp) (h : fn_X_begin hp = some res) : px_C nm_T nm_P mi_X_begin [.ref 0] hp (some (.int res.1)) res.2 ∧ oS res.2 := by
  unfold fn_X_begin at h
  refine py_C (M := mm_X_begin) rfl (Nat.le_of_ble_eq_true rfl) ?_
  show px_Y mm_X_begin 0 [(0, .ref 0)] [] hp _ _
  refine py_its (pc := 0) (pc1 := 1) (lv1 := [(0, .ref 0)]) (st1 := [.ref 0]) 1 (fun _ _ _ _ => rfl) ?_
  refine py_g1 19 (pc := 1) (len := 3) (cs := [0]) rfl rfl rfl List.mem_cons_self hS ?_
  refine py_gI (pc := 4) (len := 3) (cs := [19]) rfl rfl rfl List.mem_cons_self hS ?_
  refine py_its (pc := 7) (pc1 := 9) (lv1 := [(1, .int (gI hp 19 2)), (0, .ref 0)]) (st1 := [.ref 0]) 2 (fun _ _ _ _ => rfl) ?_
  refine py_g1 19 (pc := 9) (len := 3) (cs := [0]) rfl rfl rfl List.mem_cons_self hS ?_
  refine py_its (pc := 12) (pc1 := 13) (lv1 := [(1, .int (gI hp 19 2)), (0, .ref 0)]) (st1 := [.ref 0, .ref 19]) 1 (fun _ _ _ _ => rfl) ?_
  refine py_g1 1 (pc := 13) (len := 3) (cs := [0]) rfl rfl rfl List.mem_cons_self hS ?_
  refine py_g1 7 (pc := 16) (len := 3) (cs := [1]) rfl rfl rfl List.mem_cons_self hS ?_
  refine py_its (pc := 19) (pc1 := 20) (lv1 := [(1, .int (gI hp 19 2)), (0, .ref 0)]) (st1 := [.int (Int32.ofInt 0), .ref 7, .ref 19]) 1 (fun _ _ _ _ => rfl) ?_
  refine py_ai (pc := 20) (len := 1) (cs := [7]) (t := 17) (n := 2) rfl rfl rfl rfl List.mem_cons_self hS ?_
  refine py_its (pc := 21) (pc1 := 22) (lv1 := [(1, .int (gI hp 19 2)), (0, .ref 0)]) (st1 := [.ref 0, .int (aI hp 7 (Int32.ofInt 0).toNatClampNeg), .ref 19]) 1 (fun _ _ _ _ => rfl) ?_
  refine py_g1 1 (pc := 22) (len := 3) (cs := [0]) rfl rfl rfl List.mem_cons_self hS ?_
  refine py_g1 7 (pc := 25) (len := 3) (cs := [1]) rfl rfl rfl List.mem_cons_self hS ?_
  refine py_its (pc := 28) (pc1 := 29) (lv1 := [(1, .int (gI hp 19 2)), (0, .ref 0)]) (st1 := [.int (Int32.ofInt 1), .ref 7, .int (aI hp 7 (Int32.ofInt 0).toNatClampNeg), .ref 19]) 1 (fun _ _ _ _ => rfl) ?_
  refine py_ai (pc := 29) (len := 1) (cs := [7]) (t := 17) (n := 2) rfl rfl rfl rfl List.mem_cons_self hS ?_
  obtain ⟨q1, hq2, h⟩ := bd_e h
  obtain ⟨hC3, hS4⟩ := fx_Chest_startAnew (List.mem_of_elem_eq_true rfl) hS hq2
  refine py_vi (pc := 30) (mi := mi_Chest_startAnew) (cs := [19]) (N := mm_Chest_startAnew) rfl rfl rfl rfl List.mem_cons_self hS rfl (Nat.le_of_ble_eq_true rfl) (Nat.le_of_ble_eq_true rfl) rfl rfl hC3 ?_
  show px_Y mm_X_begin 33 [(1, .int (gI hp 19 2)), (0, .ref 0)] [] q1 _ _
  refine py_its (pc := 33) (pc1 := 34) (lv1 := [(1, .int (gI hp 19 2)), (0, .ref 0)]) (st1 := [.int (gI hp 19 2)]) 1 (fun _ _ _ _ => rfl) ?_
  have h := Option.some.inj h
  subst h
  exact py_ir (pc := 34) (len := 1) (ty := .int) rfl rfl rfl hS4
/-! X_bag -/
noncomputable def fn_X_bag (a1 : Int32) (a2 : Int32) (hp : px_H) : Option (Int32) :=
  (fn_X_isBag a1 hp).bind fun q1 =>
  bif px_cmp .eq q1 0 then
    some (Int32.ofInt (-1))
  else
    bif px_cmp .lt a2 0 then
      some (Int32.ofInt (-1))
    else
      bif px_cmp .le a2 (Int32.ofInt 1) then
        bif px_cmp .ne a2 0 then
          (fn_Chest_part 19 ((Int32.ofInt 2) + a1) hp).bind fun q8 =>
          some q8
        else
          (fn_Chest_part 19 a1 hp).bind fun q11 =>
          some q11
      else
        some (Int32.ofInt (-1))
theorem fx_X_bag {a1 : Int32} {a2 : Int32} {hp : px_H} {res : Int32} (hS : oS hp) (h : fn_X_bag a1 a2 hp = some res) : px_C nm_T nm_P mi_X_bag [.ref 0, .int a1, .int a2] hp (some (.int res)) hp ∧ oS hp := by
  unfold fn_X_bag at h
  refine py_C (M := mm_X_bag) rfl (Nat.le_of_ble_eq_true rfl) ?_
  show px_Y mm_X_bag 0 [(0, .ref 0), (1, .int a1), (2, .int a2)] [] hp _ _
  refine py_its (pc := 0) (pc1 := 1) (lv1 := [(0, .ref 0), (1, .int a1), (2, .int a2)]) (st1 := [.int a1]) 1 (fun _ _ _ _ => rfl) ?_
  obtain ⟨q1, hq2, h⟩ := bd_e h
  have hC3 := (fx_X_isBag hS hq2).1
  refine py_st (pc := 1) (mi := mi_X_isBag) (N := mm_X_isBag) rfl rfl rfl (Nat.le_of_ble_eq_true rfl) (Nat.le_of_ble_eq_true rfl) rfl rfl hC3 ?_
  show px_Y mm_X_bag 4 [(0, .ref 0), (1, .int a1), (2, .int a2)] [.int q1] hp _ _
  cases hb4 : px_cmp .eq q1 0 with
  | true =>
    have h := cd_t hb4 h
    refine py_if (pc := 4) (len := 3) true rfl hb4 ?_
    refine py_its (pc := 16) (pc1 := 17) (lv1 := [(0, .ref 0), (1, .int a1), (2, .int a2)]) (st1 := [.int (Int32.ofInt (-1))]) 1 (fun _ _ _ _ => rfl) ?_
    have h := Option.some.inj h
    subst h
    exact py_ir (pc := 17) (len := 1) (ty := .int) rfl rfl rfl hS
  | false =>
    have h := cd_f hb4 h
    refine py_if (pc := 4) (len := 3) false rfl hb4 ?_
    refine py_its (pc := 7) (pc1 := 8) (lv1 := [(0, .ref 0), (1, .int a1), (2, .int a2)]) (st1 := [.int a2]) 1 (fun _ _ _ _ => rfl) ?_
    cases hb5 : px_cmp .lt a2 0 with
    | true =>
      have h := cd_t hb5 h
      refine py_if (pc := 8) (len := 3) true rfl hb5 ?_
      refine py_its (pc := 16) (pc1 := 17) (lv1 := [(0, .ref 0), (1, .int a1), (2, .int a2)]) (st1 := [.int (Int32.ofInt (-1))]) 1 (fun _ _ _ _ => rfl) ?_
      have h := Option.some.inj h
      subst h
      exact py_ir (pc := 17) (len := 1) (ty := .int) rfl rfl rfl hS
    | false =>
      have h := cd_f hb5 h
      refine py_if (pc := 8) (len := 3) false rfl hb5 ?_
      refine py_its (pc := 11) (pc1 := 13) (lv1 := [(0, .ref 0), (1, .int a1), (2, .int a2)]) (st1 := [.int (Int32.ofInt 1), .int a2]) 2 (fun _ _ _ _ => rfl) ?_
      cases hb6 : px_cmp .le a2 (Int32.ofInt 1) with
      | true =>
        have h := cd_t hb6 h
        refine py_ic (pc := 13) (len := 3) true rfl hb6 ?_
        refine py_its (pc := 18) (pc1 := 19) (lv1 := [(0, .ref 0), (1, .int a1), (2, .int a2)]) (st1 := [.ref 0]) 1 (fun _ _ _ _ => rfl) ?_
        refine py_g1 19 (pc := 19) (len := 3) (cs := [0]) rfl rfl rfl List.mem_cons_self hS ?_
        refine py_its (pc := 22) (pc1 := 23) (lv1 := [(0, .ref 0), (1, .int a1), (2, .int a2)]) (st1 := [.int a2, .ref 19]) 1 (fun _ _ _ _ => rfl) ?_
        cases hb7 : px_cmp .ne a2 0 with
        | true =>
          have h := cd_t hb7 h
          refine py_if (pc := 23) (len := 3) true rfl hb7 ?_
          refine py_its (pc := 30) (pc1 := 33) (lv1 := [(0, .ref 0), (1, .int a1), (2, .int a2)]) (st1 := [.int ((Int32.ofInt 2) + a1), .ref 19]) 3 (fun _ _ _ _ => rfl) ?_
          obtain ⟨q8, hq9, h⟩ := bd_e h
          have hC10 := (fx_Chest_part (List.mem_of_elem_eq_true rfl) hS hq9).1
          refine py_vi (pc := 33) (mi := mi_Chest_part) (cs := [19]) (N := mm_Chest_part) rfl rfl rfl rfl List.mem_cons_self hS rfl (Nat.le_of_ble_eq_true rfl) (Nat.le_of_ble_eq_true rfl) rfl rfl hC10 ?_
          show px_Y mm_X_bag 36 [(0, .ref 0), (1, .int a1), (2, .int a2)] [.int q8] hp _ _
          have h := Option.some.inj h
          subst h
          exact py_ir (pc := 36) (len := 1) (ty := .int) rfl rfl rfl hS
        | false =>
          have h := cd_f hb7 h
          refine py_if (pc := 23) (len := 3) false rfl hb7 ?_
          refine py_its (pc := 26) (pc1 := 33) (lv1 := [(0, .ref 0), (1, .int a1), (2, .int a2)]) (st1 := [.int a1, .ref 19]) 2 (fun _ _ _ _ => rfl) ?_
          obtain ⟨q11, hq12, h⟩ := bd_e h
          have hC13 := (fx_Chest_part (List.mem_of_elem_eq_true rfl) hS hq12).1
          refine py_vi (pc := 33) (mi := mi_Chest_part) (cs := [19]) (N := mm_Chest_part) rfl rfl rfl rfl List.mem_cons_self hS rfl (Nat.le_of_ble_eq_true rfl) (Nat.le_of_ble_eq_true rfl) rfl rfl hC13 ?_
          show px_Y mm_X_bag 36 [(0, .ref 0), (1, .int a1), (2, .int a2)] [.int q11] hp _ _
          have h := Option.some.inj h
          subst h
          exact py_ir (pc := 36) (len := 1) (ty := .int) rfl rfl rfl hS
      | false =>
        have h := cd_f hb6 h
        refine py_ic (pc := 13) (len := 3) false rfl hb6 ?_
        refine py_its (pc := 16) (pc1 := 17) (lv1 := [(0, .ref 0), (1, .int a1), (2, .int a2)]) (st1 := [.int (Int32.ofInt (-1))]) 1 (fun _ _ _ _ => rfl) ?_
        have h := Option.some.inj h
        subst h
        exact py_ir (pc := 17) (len := 1) (ty := .int) rfl rfl rfl hS
/-! X_lastIn -/
noncomputable def fn_X_lastIn (a0 : Int32) (a1 : Int32) (hp : px_H) : Option (Int32) :=
  some (((nm_us a0 ((Int32.ofInt 3) * a1)) &&& (Int8.ofInt 7).toInt32) - (Int32.ofInt 1))
theorem fx_X_lastIn {a0 : Int32} {a1 : Int32} {hp : px_H} {res : Int32} (hS : oS hp) (h : fn_X_lastIn a0 a1 hp = some res) : px_C nm_T nm_P mi_X_lastIn [.int a0, .int a1] hp (some (.int res)) hp ∧ oS hp := by
  unfold fn_X_lastIn at h
  refine py_C (M := mm_X_lastIn) rfl (Nat.le_of_ble_eq_true rfl) ?_
  show px_Y mm_X_lastIn 0 [(0, .int a0), (1, .int a1)] [] hp _ _
  refine py_its (pc := 0) (pc1 := 10) (lv1 := [(0, .int a0), (1, .int a1)]) (st1 := [.int (((nm_us a0 ((Int32.ofInt 3) * a1)) &&& (Int8.ofInt 7).toInt32) - (Int32.ofInt 1))]) 9 (fun _ _ _ _ => rfl) ?_
  have h := Option.some.inj h
  subst h
  exact py_ir (pc := 10) (len := 1) (ty := .int) rfl rfl rfl hS
/-! X_sat -/
noncomputable def fn_X_sat (a1 : Int32) (hp : px_H) : Option (Int32) :=
  (fn_Town_hasPerson a1 hp).bind fun q1 =>
  bif px_cmp .ne q1 0 then
    (fn_X_lastIn (gI hp 19 1) a1 hp).bind fun q5 =>
    bif px_cmp .ge q5 0 then
      some q5
    else
      some (Int8.ofInt (-2)).toInt32
  else
    some (Int32.ofInt (-1))
theorem fx_X_sat {a1 : Int32} {hp : px_H} {res : Int32} (hS : oS hp) (h : fn_X_sat a1 hp = some res) : px_C nm_T nm_P mi_X_sat [.ref 0, .int a1] hp (some (.int res)) hp ∧ oS hp := by
  unfold fn_X_sat at h
  refine py_C (M := mm_X_sat) rfl (Nat.le_of_ble_eq_true rfl) ?_
  show px_Y mm_X_sat 0 [(0, .ref 0), (1, .int a1)] [] hp _ _
  refine py_its (pc := 0) (pc1 := 1) (lv1 := [(0, .ref 0), (1, .int a1)]) (st1 := [.ref 0]) 1 (fun _ _ _ _ => rfl) ?_
  refine py_g1 1 (pc := 1) (len := 3) (cs := [0]) rfl rfl rfl List.mem_cons_self hS ?_
  refine py_its (pc := 4) (pc1 := 5) (lv1 := [(0, .ref 0), (1, .int a1)]) (st1 := [.int a1, .ref 1]) 1 (fun _ _ _ _ => rfl) ?_
  obtain ⟨q1, hq2, h⟩ := bd_e h
  have hC3 := (fx_Town_hasPerson hS hq2).1
  refine py_vi (pc := 5) (mi := mi_Town_hasPerson) (cs := [1]) (N := mm_Town_hasPerson) rfl rfl rfl rfl List.mem_cons_self hS rfl (Nat.le_of_ble_eq_true rfl) (Nat.le_of_ble_eq_true rfl) rfl rfl hC3 ?_
  show px_Y mm_X_sat 8 [(0, .ref 0), (1, .int a1)] [.int q1] hp _ _
  cases hb4 : px_cmp .ne q1 0 with
  | true =>
    have h := cd_t hb4 h
    refine py_if (pc := 8) (len := 3) true rfl hb4 ?_
    refine py_its (pc := 13) (pc1 := 14) (lv1 := [(0, .ref 0), (1, .int a1)]) (st1 := [.ref 0]) 1 (fun _ _ _ _ => rfl) ?_
    refine py_g1 19 (pc := 14) (len := 3) (cs := [0]) rfl rfl rfl List.mem_cons_self hS ?_
    refine py_gI (pc := 17) (len := 3) (cs := [19]) rfl rfl rfl List.mem_cons_self hS ?_
    refine py_its (pc := 20) (pc1 := 21) (lv1 := [(0, .ref 0), (1, .int a1)]) (st1 := [.int a1, .int (gI hp 19 1)]) 1 (fun _ _ _ _ => rfl) ?_
    obtain ⟨q5, hq6, h⟩ := bd_e h
    have hC7 := (fx_X_lastIn hS hq6).1
    refine py_st (pc := 21) (mi := mi_X_lastIn) (N := mm_X_lastIn) rfl rfl rfl (Nat.le_of_ble_eq_true rfl) (Nat.le_of_ble_eq_true rfl) rfl rfl hC7 ?_
    show px_Y mm_X_sat 24 [(0, .ref 0), (1, .int a1)] [.int q5] hp _ _
    refine py_its (pc := 24) (pc1 := 26) (lv1 := [(2, .int q5), (0, .ref 0), (1, .int a1)]) (st1 := [.int q5]) 2 (fun _ _ _ _ => rfl) ?_
    cases hb8 : px_cmp .ge q5 0 with
    | true =>
      have h := cd_t hb8 h
      refine py_if (pc := 26) (len := 3) true rfl hb8 ?_
      refine py_its (pc := 34) (pc1 := 35) (lv1 := [(2, .int q5), (0, .ref 0), (1, .int a1)]) (st1 := [.int q5]) 1 (fun _ _ _ _ => rfl) ?_
      have h := Option.some.inj h
      subst h
      exact py_ir (pc := 35) (len := 1) (ty := .int) rfl rfl rfl hS
    | false =>
      have h := cd_f hb8 h
      refine py_if (pc := 26) (len := 3) false rfl hb8 ?_
      refine py_its (pc := 29) (pc1 := 35) (lv1 := [(2, .int q5), (0, .ref 0), (1, .int a1)]) (st1 := [.int (Int8.ofInt (-2)).toInt32]) 2 (fun _ _ _ _ => rfl) ?_
      have h := Option.some.inj h
      subst h
      exact py_ir (pc := 35) (len := 1) (ty := .int) rfl rfl rfl hS
  | false =>
    have h := cd_f hb4 h
    refine py_if (pc := 8) (len := 3) false rfl hb4 ?_
    refine py_its (pc := 11) (pc1 := 12) (lv1 := [(0, .ref 0), (1, .int a1)]) (st1 := [.int (Int32.ofInt (-1))]) 1 (fun _ _ _ _ => rfl) ?_
    have h := Option.some.inj h
    subst h
    exact py_ir (pc := 12) (len := 1) (ty := .int) rfl rfl rfl hS
/-! X_seed -/
noncomputable def fn_X_seed (a1 : Int32) (hp : px_H) : Option (Int32 × px_H) :=
  sb (wF hp 0 11 (.int a1)) fun h1 =>
  some ((gI hp 0 11), h1)
theorem fx_X_seed {a1 : Int32} {hp : px_H} {res : Int32 × px_H} (hS : oS hp) (h : fn_X_seed a1 hp = some res) : px_C nm_T nm_P mi_X_seed [.ref 0, .int a1] hp (some (.int res.1)) res.2 ∧ oS res.2 := by
  unfold fn_X_seed at h
  refine py_C (M := mm_X_seed) rfl (Nat.le_of_ble_eq_true rfl) ?_
  show px_Y mm_X_seed 0 [(0, .ref 0), (1, .int a1)] [] hp _ _
  refine py_its (pc := 0) (pc1 := 1) (lv1 := [(0, .ref 0), (1, .int a1)]) (st1 := [.ref 0]) 1 (fun _ _ _ _ => rfl) ?_
  refine py_gI (pc := 1) (len := 3) (cs := [0]) rfl rfl rfl List.mem_cons_self hS ?_
  refine py_its (pc := 4) (pc1 := 7) (lv1 := [(2, .int (gI hp 0 11)), (0, .ref 0), (1, .int a1)]) (st1 := [.int a1, .ref 0]) 3 (fun _ _ _ _ => rfl) ?_
  have h := sb_e h
  refine py_pI (pc := 7) (len := 3) (cs := [0]) rfl rfl rfl List.mem_cons_self hS rfl rfl rfl rfl ?_
  have hS2 : oS (wF hp 0 11 (.int a1)) := oS_wI (cs := [0]) (ci := 8) rfl List.mem_cons_self hS
  generalize (wF hp 0 11 (.int a1)) = h1 at h hS2 ⊢
  refine py_its (pc := 10) (pc1 := 11) (lv1 := [(2, .int (gI hp 0 11)), (0, .ref 0), (1, .int a1)]) (st1 := [.int (gI hp 0 11)]) 1 (fun _ _ _ _ => rfl) ?_
  have h := Option.some.inj h
  subst h
  exact py_ir (pc := 11) (len := 1) (ty := .int) rfl rfl rfl hS2
/-! X_keep -/
noncomputable def fn_X_keep (a1 : Int32) (hp : px_H) : Option (Int32 × px_H) :=
  bif px_cmp .lt a1 0 then
    some ((Int32.ofInt 0), hp)
  else
    bif px_cmp .lt a1 (Int32.ofInt 3) then
      bif px_inR a1 3 then
      (fn_Chest_copy (aR hp 51 a1.toNatClampNeg) 19 hp).bind fun q5 =>
      bif px_inR a1 3 then
      sb (uI q5 52 a1.toNatClampNeg (gI q5 0 11)) fun h10 =>
      sb (wF h10 0 14 (.int ((gI h10 0 14) ||| ((Int32.ofInt 1) <<< (a1 &&& 31))))) fun h12 =>
      some ((Int32.ofInt 1), h12)
      else none
      else none
    else
      some ((Int32.ofInt 0), hp)
theorem fx_X_keep {a1 : Int32} {hp : px_H} {res : Int32 × px_H} (hS : oS hp) (h : fn_X_keep a1 hp = some res) : px_C nm_T nm_P mi_X_keep [.ref 0, .int a1] hp (some (.int res.1)) res.2 ∧ oS res.2 := by
  unfold fn_X_keep at h
  refine py_C (M := mm_X_keep) rfl (Nat.le_of_ble_eq_true rfl) ?_
  show px_Y mm_X_keep 0 [(0, .ref 0), (1, .int a1)] [] hp _ _
  refine py_its (pc := 0) (pc1 := 1) (lv1 := [(0, .ref 0), (1, .int a1)]) (st1 := [.int a1]) 1 (fun _ _ _ _ => rfl) ?_
  cases hb1 : px_cmp .lt a1 0 with
  | true =>
    have h := cd_t hb1 h
    refine py_if (pc := 1) (len := 3) true rfl hb1 ?_
    refine py_its (pc := 9) (pc1 := 10) (lv1 := [(0, .ref 0), (1, .int a1)]) (st1 := [.int (Int32.ofInt 0)]) 1 (fun _ _ _ _ => rfl) ?_
    have h := Option.some.inj h
    subst h
    exact py_ir (pc := 10) (len := 1) (ty := .boolean) rfl rfl (by decide) hS
  | false =>
    have h := cd_f hb1 h
    refine py_if (pc := 1) (len := 3) false rfl hb1 ?_
    refine py_its (pc := 4) (pc1 := 6) (lv1 := [(0, .ref 0), (1, .int a1)]) (st1 := [.int (Int32.ofInt 3), .int a1]) 2 (fun _ _ _ _ => rfl) ?_
    cases hb2 : px_cmp .lt a1 (Int32.ofInt 3) with
    | true =>
      have h := cd_t hb2 h
      refine py_ic (pc := 6) (len := 3) true rfl hb2 ?_
      refine py_its (pc := 11) (pc1 := 12) (lv1 := [(0, .ref 0), (1, .int a1)]) (st1 := [.ref 0]) 1 (fun _ _ _ _ => rfl) ?_
      refine py_g1 51 (pc := 12) (len := 3) (cs := [0]) rfl rfl rfl List.mem_cons_self hS ?_
      refine py_its (pc := 15) (pc1 := 16) (lv1 := [(0, .ref 0), (1, .int a1)]) (st1 := [.int a1, .ref 51]) 1 (fun _ _ _ _ => rfl) ?_
      obtain ⟨hi3, h⟩ := cd_n h
      refine py_ar [66, 67, 68] (pc := 16) (len := 1) (cs := [51]) (t := 24) (n := 3) rfl rfl rfl hi3 List.mem_cons_self hS (fun hm4 => ?_)
      refine py_its (pc := 17) (pc1 := 18) (lv1 := [(0, .ref 0), (1, .int a1)]) (st1 := [.ref 0, .ref (aR hp 51 a1.toNatClampNeg)]) 1 (fun _ _ _ _ => rfl) ?_
      refine py_g1 19 (pc := 18) (len := 3) (cs := [0]) rfl rfl rfl List.mem_cons_self hS ?_
      obtain ⟨q5, hq6, h⟩ := bd_e h
      obtain ⟨hC7, hS8⟩ := fx_Chest_copy (sx_sub rfl hm4) (List.mem_of_elem_eq_true rfl) hS hq6
      refine py_vi (pc := 21) (mi := mi_Chest_copy) (cs := [66, 67, 68]) (N := mm_Chest_copy) rfl rfl rfl rfl hm4 hS rfl (Nat.le_of_ble_eq_true rfl) (Nat.le_of_ble_eq_true rfl) rfl rfl hC7 ?_
      show px_Y mm_X_keep 24 [(0, .ref 0), (1, .int a1)] [] q5 _ _
      refine py_its (pc := 24) (pc1 := 25) (lv1 := [(0, .ref 0), (1, .int a1)]) (st1 := [.ref 0]) 1 (fun _ _ _ _ => rfl) ?_
      refine py_g1 52 (pc := 25) (len := 3) (cs := [0]) rfl rfl rfl List.mem_cons_self hS8 ?_
      refine py_its (pc := 28) (pc1 := 30) (lv1 := [(0, .ref 0), (1, .int a1)]) (st1 := [.ref 0, .int a1, .ref 52]) 2 (fun _ _ _ _ => rfl) ?_
      refine py_gI (pc := 30) (len := 3) (cs := [0]) rfl rfl rfl List.mem_cons_self hS8 ?_
      obtain ⟨hi9, h⟩ := cd_n h
      have h := sb_e h
      refine py_si (pc := 33) (len := 1) (cs := [52]) (t := 25) (n := 3) rfl rfl rfl hi9 List.mem_cons_self hS8 ?_
      have hS11 : oS (uI q5 52 a1.toNatClampNeg (gI q5 0 11)) := oS_uI (cs := [52]) (t := 25) (n := 3) rfl List.mem_cons_self hS8
      generalize (uI q5 52 a1.toNatClampNeg (gI q5 0 11)) = h10 at h hS11 ⊢
      refine py_its (pc := 34) (pc1 := 36) (lv1 := [(0, .ref 0), (1, .int a1)]) (st1 := [.ref 0, .ref 0]) 2 (fun _ _ _ _ => rfl) ?_
      refine py_gI (pc := 36) (len := 3) (cs := [0]) rfl rfl rfl List.mem_cons_self hS11 ?_
      refine py_its (pc := 39) (pc1 := 43) (lv1 := [(0, .ref 0), (1, .int a1)]) (st1 := [.int ((gI h10 0 14) ||| ((Int32.ofInt 1) <<< (a1 &&& 31))), .ref 0]) 4 (fun _ _ _ _ => rfl) ?_
      have h := sb_e h
      refine py_pI (pc := 43) (len := 3) (cs := [0]) rfl rfl rfl List.mem_cons_self hS11 rfl rfl rfl rfl ?_
      have hS13 : oS (wF h10 0 14 (.int ((gI h10 0 14) ||| ((Int32.ofInt 1) <<< (a1 &&& 31))))) := oS_wI (cs := [0]) (ci := 8) rfl List.mem_cons_self hS11
      generalize (wF h10 0 14 (.int ((gI h10 0 14) ||| ((Int32.ofInt 1) <<< (a1 &&& 31))))) = h12 at h hS13 ⊢
      refine py_its (pc := 46) (pc1 := 47) (lv1 := [(0, .ref 0), (1, .int a1)]) (st1 := [.int (Int32.ofInt 1)]) 1 (fun _ _ _ _ => rfl) ?_
      have h := Option.some.inj h
      subst h
      exact py_ir (pc := 47) (len := 1) (ty := .boolean) rfl rfl (by decide) hS13
    | false =>
      have h := cd_f hb2 h
      refine py_ic (pc := 6) (len := 3) false rfl hb2 ?_
      refine py_its (pc := 9) (pc1 := 10) (lv1 := [(0, .ref 0), (1, .int a1)]) (st1 := [.int (Int32.ofInt 0)]) 1 (fun _ _ _ _ => rfl) ?_
      have h := Option.some.inj h
      subst h
      exact py_ir (pc := 10) (len := 1) (ty := .boolean) rfl rfl (by decide) hS
/-! X_again -/
noncomputable def fn_X_again (a1 : Int32) (hp : px_H) : Option (Int32 × px_H) :=
  bif px_cmp .lt a1 0 then
    some ((Int32.ofInt 0), hp)
  else
    bif px_cmp .ge a1 (Int32.ofInt 3) then
      some ((Int32.ofInt 0), hp)
    else
      bif px_cmp .ne (((gI hp 0 14) >>> (a1 &&& 31)) &&& (Int32.ofInt 1)) 0 then
        bif px_inR a1 3 then
        (fn_Chest_copy 19 (aR hp 51 a1.toNatClampNeg) hp).bind fun q6 =>
        bif px_inR a1 3 then
        sb (wF q6 0 11 (.int (aI q6 52 a1.toNatClampNeg))) fun h11 =>
        some ((Int32.ofInt 1), h11)
        else none
        else none
      else
        some ((Int32.ofInt 0), hp)
theorem fx_X_again {a1 : Int32} {hp : px_H} {res : Int32 × px_H} (hS : oS hp) (h : fn_X_again a1 hp = some res) : px_C nm_T nm_P mi_X_again [.ref 0, .int a1] hp (some (.int res.1)) res.2 ∧ oS res.2 := by
  unfold fn_X_again at h
  refine py_C (M := mm_X_again) rfl (Nat.le_of_ble_eq_true rfl) ?_
  show px_Y mm_X_again 0 [(0, .ref 0), (1, .int a1)] [] hp _ _
  refine py_its (pc := 0) (pc1 := 1) (lv1 := [(0, .ref 0), (1, .int a1)]) (st1 := [.int a1]) 1 (fun _ _ _ _ => rfl) ?_
  cases hb1 : px_cmp .lt a1 0 with
  | true =>
    have h := cd_t hb1 h
    refine py_if (pc := 1) (len := 3) true rfl hb1 ?_
    refine py_its (pc := 20) (pc1 := 21) (lv1 := [(0, .ref 0), (1, .int a1)]) (st1 := [.int (Int32.ofInt 0)]) 1 (fun _ _ _ _ => rfl) ?_
    have h := Option.some.inj h
    subst h
    exact py_ir (pc := 21) (len := 1) (ty := .boolean) rfl rfl (by decide) hS
  | false =>
    have h := cd_f hb1 h
    refine py_if (pc := 1) (len := 3) false rfl hb1 ?_
    refine py_its (pc := 4) (pc1 := 6) (lv1 := [(0, .ref 0), (1, .int a1)]) (st1 := [.int (Int32.ofInt 3), .int a1]) 2 (fun _ _ _ _ => rfl) ?_
    cases hb2 : px_cmp .ge a1 (Int32.ofInt 3) with
    | true =>
      have h := cd_t hb2 h
      refine py_ic (pc := 6) (len := 3) true rfl hb2 ?_
      refine py_its (pc := 20) (pc1 := 21) (lv1 := [(0, .ref 0), (1, .int a1)]) (st1 := [.int (Int32.ofInt 0)]) 1 (fun _ _ _ _ => rfl) ?_
      have h := Option.some.inj h
      subst h
      exact py_ir (pc := 21) (len := 1) (ty := .boolean) rfl rfl (by decide) hS
    | false =>
      have h := cd_f hb2 h
      refine py_ic (pc := 6) (len := 3) false rfl hb2 ?_
      refine py_its (pc := 9) (pc1 := 10) (lv1 := [(0, .ref 0), (1, .int a1)]) (st1 := [.ref 0]) 1 (fun _ _ _ _ => rfl) ?_
      refine py_gI (pc := 10) (len := 3) (cs := [0]) rfl rfl rfl List.mem_cons_self hS ?_
      refine py_its (pc := 13) (pc1 := 17) (lv1 := [(0, .ref 0), (1, .int a1)]) (st1 := [.int (((gI hp 0 14) >>> (a1 &&& 31)) &&& (Int32.ofInt 1))]) 4 (fun _ _ _ _ => rfl) ?_
      cases hb3 : px_cmp .ne (((gI hp 0 14) >>> (a1 &&& 31)) &&& (Int32.ofInt 1)) 0 with
      | true =>
        have h := cd_t hb3 h
        refine py_if (pc := 17) (len := 3) true rfl hb3 ?_
        refine py_its (pc := 22) (pc1 := 23) (lv1 := [(0, .ref 0), (1, .int a1)]) (st1 := [.ref 0]) 1 (fun _ _ _ _ => rfl) ?_
        refine py_g1 19 (pc := 23) (len := 3) (cs := [0]) rfl rfl rfl List.mem_cons_self hS ?_
        refine py_its (pc := 26) (pc1 := 27) (lv1 := [(0, .ref 0), (1, .int a1)]) (st1 := [.ref 0, .ref 19]) 1 (fun _ _ _ _ => rfl) ?_
        refine py_g1 51 (pc := 27) (len := 3) (cs := [0]) rfl rfl rfl List.mem_cons_self hS ?_
        refine py_its (pc := 30) (pc1 := 31) (lv1 := [(0, .ref 0), (1, .int a1)]) (st1 := [.int a1, .ref 51, .ref 19]) 1 (fun _ _ _ _ => rfl) ?_
        obtain ⟨hi4, h⟩ := cd_n h
        refine py_ar [66, 67, 68] (pc := 31) (len := 1) (cs := [51]) (t := 24) (n := 3) rfl rfl rfl hi4 List.mem_cons_self hS (fun hm5 => ?_)
        obtain ⟨q6, hq7, h⟩ := bd_e h
        obtain ⟨hC8, hS9⟩ := fx_Chest_copy (List.mem_of_elem_eq_true rfl) (sx_sub rfl hm5) hS hq7
        refine py_vi (pc := 32) (mi := mi_Chest_copy) (cs := [19]) (N := mm_Chest_copy) rfl rfl rfl rfl List.mem_cons_self hS rfl (Nat.le_of_ble_eq_true rfl) (Nat.le_of_ble_eq_true rfl) rfl rfl hC8 ?_
        show px_Y mm_X_again 35 [(0, .ref 0), (1, .int a1)] [] q6 _ _
        refine py_its (pc := 35) (pc1 := 37) (lv1 := [(0, .ref 0), (1, .int a1)]) (st1 := [.ref 0, .ref 0]) 2 (fun _ _ _ _ => rfl) ?_
        refine py_g1 52 (pc := 37) (len := 3) (cs := [0]) rfl rfl rfl List.mem_cons_self hS9 ?_
        refine py_its (pc := 40) (pc1 := 41) (lv1 := [(0, .ref 0), (1, .int a1)]) (st1 := [.int a1, .ref 52, .ref 0]) 1 (fun _ _ _ _ => rfl) ?_
        obtain ⟨hi10, h⟩ := cd_n h
        refine py_ai (pc := 41) (len := 1) (cs := [52]) (t := 25) (n := 3) rfl rfl rfl hi10 List.mem_cons_self hS9 ?_
        have h := sb_e h
        refine py_pI (pc := 42) (len := 3) (cs := [0]) rfl rfl rfl List.mem_cons_self hS9 rfl rfl rfl rfl ?_
        have hS12 : oS (wF q6 0 11 (.int (aI q6 52 a1.toNatClampNeg))) := oS_wI (cs := [0]) (ci := 8) rfl List.mem_cons_self hS9
        generalize (wF q6 0 11 (.int (aI q6 52 a1.toNatClampNeg))) = h11 at h hS12 ⊢
        refine py_its (pc := 45) (pc1 := 46) (lv1 := [(0, .ref 0), (1, .int a1)]) (st1 := [.int (Int32.ofInt 1)]) 1 (fun _ _ _ _ => rfl) ?_
        have h := Option.some.inj h
        subst h
        exact py_ir (pc := 46) (len := 1) (ty := .boolean) rfl rfl (by decide) hS12
      | false =>
        have h := cd_f hb3 h
        refine py_if (pc := 17) (len := 3) false rfl hb3 ?_
        refine py_its (pc := 20) (pc1 := 21) (lv1 := [(0, .ref 0), (1, .int a1)]) (st1 := [.int (Int32.ofInt 0)]) 1 (fun _ _ _ _ => rfl) ?_
        have h := Option.some.inj h
        subst h
        exact py_ir (pc := 21) (len := 1) (ty := .boolean) rfl rfl (by decide) hS
/-! M_person -/
noncomputable def fn_M_person (a1 : Int32) (hp : px_H) : Option (Int32 × px_H) :=
  sb (wF hp 69 0 (.int (Int32.ofInt 0))) fun h1 =>
  bif px_cmp .eq (sx_in a1.toInt64 (Int64.ofNat 0) (Int64.ofInt 5)) 0 then
    some ((Int32.ofInt (-1)), h1)
  else
    bif px_cmp .ne (gI h1 69 3) (Int8.ofInt 10).toInt32 then
      bif px_inR (gI h1 69 3) 10 then
      sb (uI h1 71 (gI h1 69 3).toNatClampNeg a1) fun h6 =>
      bif px_inR (gI h6 69 3) 10 then
      sb (uI h6 72 (gI h6 69 3).toNatClampNeg (Int32.ofInt 0)) fun h9 =>
      bif px_inR (gI h9 69 3) 10 then
      sb (uI h9 73 (gI h9 69 3).toNatClampNeg (Int32.ofInt 0)) fun h12 =>
      bif px_inR (gI h12 69 3) 10 then
      sb (uI h12 74 (gI h12 69 3).toNatClampNeg (Int32.ofInt (-1))) fun h15 =>
      bif px_inR (gI h15 69 3) 10 then
      sb (uI h15 75 (gI h15 69 3).toNatClampNeg (Int16.ofInt 1000).toInt32) fun h18 =>
      sb (wF h18 69 3 (.int ((gI h18 69 3) + (Int32.ofInt 1)))) fun h20 =>
      some (((gI h20 69 3) - (Int32.ofInt 1)), h20)
      else none
      else none
      else none
      else none
      else none
    else
      some ((Int32.ofInt (-1)), h1)
theorem fx_M_person {a1 : Int32} {hp : px_H} {res : Int32 × px_H} (hS : oS hp) (h : fn_M_person a1 hp = some res) : px_C nm_T nm_P mi_M_person [.ref 69, .int a1] hp (some (.int res.1)) res.2 ∧ oS res.2 := by
  unfold fn_M_person at h
  refine py_C (M := mm_M_person) rfl (Nat.le_of_ble_eq_true rfl) ?_
  show px_Y mm_M_person 0 [(0, .ref 69), (1, .int a1)] [] hp _ _
  refine py_its (pc := 0) (pc1 := 2) (lv1 := [(0, .ref 69), (1, .int a1)]) (st1 := [.int (Int32.ofInt 0), .ref 69]) 2 (fun _ _ _ _ => rfl) ?_
  have h := sb_e h
  refine py_pI (pc := 2) (len := 3) (cs := [69]) rfl rfl rfl List.mem_cons_self hS rfl rfl rfl rfl ?_
  have hS2 : oS (wF hp 69 0 (.int (Int32.ofInt 0))) := oS_wI (cs := [69]) (ci := 9) rfl List.mem_cons_self hS
  generalize (wF hp 69 0 (.int (Int32.ofInt 0))) = h1 at h hS2 ⊢
  refine py_its (pc := 5) (pc1 := 11) (lv1 := [(0, .ref 69), (1, .int a1)]) (st1 := [.long (Int64.ofInt 5), .long (Int64.ofNat 0), .long a1.toInt64]) 4 (fun _ _ _ _ => rfl) ?_
  refine py_st (pc := 11) (mi := mi_M_in) (N := mm_M_in) rfl rfl rfl (Nat.le_of_ble_eq_true rfl) (Nat.le_of_ble_eq_true rfl) rfl rfl (sx_in_C a1.toInt64 (Int64.ofNat 0) (Int64.ofInt 5) h1) ?_
  show px_Y mm_M_person 14 [(0, .ref 69), (1, .int a1)] [.int (sx_in a1.toInt64 (Int64.ofNat 0) (Int64.ofInt 5))] h1 _ _
  cases hb3 : px_cmp .eq (sx_in a1.toInt64 (Int64.ofNat 0) (Int64.ofInt 5)) 0 with
  | true =>
    have h := cd_t hb3 h
    refine py_if (pc := 14) (len := 3) true rfl hb3 ?_
    refine py_its (pc := 26) (pc1 := 27) (lv1 := [(0, .ref 69), (1, .int a1)]) (st1 := [.int (Int32.ofInt (-1))]) 1 (fun _ _ _ _ => rfl) ?_
    have h := Option.some.inj h
    subst h
    exact py_ir (pc := 27) (len := 1) (ty := .int) rfl rfl rfl hS2
  | false =>
    have h := cd_f hb3 h
    refine py_if (pc := 14) (len := 3) false rfl hb3 ?_
    refine py_its (pc := 17) (pc1 := 18) (lv1 := [(0, .ref 69), (1, .int a1)]) (st1 := [.ref 69]) 1 (fun _ _ _ _ => rfl) ?_
    refine py_gI (pc := 18) (len := 3) (cs := [69]) rfl rfl rfl List.mem_cons_self hS2 ?_
    refine py_its (pc := 21) (pc1 := 23) (lv1 := [(0, .ref 69), (1, .int a1)]) (st1 := [.int (Int8.ofInt 10).toInt32, .int (gI h1 69 3)]) 1 (fun _ _ _ _ => rfl) ?_
    cases hb4 : px_cmp .ne (gI h1 69 3) (Int8.ofInt 10).toInt32 with
    | true =>
      have h := cd_t hb4 h
      refine py_ic (pc := 23) (len := 3) true rfl hb4 ?_
      refine py_its (pc := 28) (pc1 := 29) (lv1 := [(0, .ref 69), (1, .int a1)]) (st1 := [.ref 69]) 1 (fun _ _ _ _ => rfl) ?_
      refine py_g1 71 (pc := 29) (len := 3) (cs := [69]) rfl rfl rfl List.mem_cons_self hS2 ?_
      refine py_its (pc := 32) (pc1 := 33) (lv1 := [(0, .ref 69), (1, .int a1)]) (st1 := [.ref 69, .ref 71]) 1 (fun _ _ _ _ => rfl) ?_
      refine py_gI (pc := 33) (len := 3) (cs := [69]) rfl rfl rfl List.mem_cons_self hS2 ?_
      refine py_its (pc := 36) (pc1 := 37) (lv1 := [(0, .ref 69), (1, .int a1)]) (st1 := [.int a1, .int (gI h1 69 3), .ref 71]) 1 (fun _ _ _ _ => rfl) ?_
      obtain ⟨hi5, h⟩ := cd_n h
      have h := sb_e h
      refine py_si (pc := 37) (len := 1) (cs := [71]) (t := 28) (n := 10) rfl rfl rfl hi5 List.mem_cons_self hS2 ?_
      have hS7 : oS (uI h1 71 (gI h1 69 3).toNatClampNeg a1) := oS_uI (cs := [71]) (t := 28) (n := 10) rfl List.mem_cons_self hS2
      generalize (uI h1 71 (gI h1 69 3).toNatClampNeg a1) = h6 at h hS7 ⊢
      refine py_its (pc := 38) (pc1 := 39) (lv1 := [(0, .ref 69), (1, .int a1)]) (st1 := [.ref 69]) 1 (fun _ _ _ _ => rfl) ?_
      refine py_g1 72 (pc := 39) (len := 3) (cs := [69]) rfl rfl rfl List.mem_cons_self hS7 ?_
      refine py_its (pc := 42) (pc1 := 43) (lv1 := [(0, .ref 69), (1, .int a1)]) (st1 := [.ref 69, .ref 72]) 1 (fun _ _ _ _ => rfl) ?_
      refine py_gI (pc := 43) (len := 3) (cs := [69]) rfl rfl rfl List.mem_cons_self hS7 ?_
      refine py_its (pc := 46) (pc1 := 47) (lv1 := [(0, .ref 69), (1, .int a1)]) (st1 := [.int (Int32.ofInt 0), .int (gI h6 69 3), .ref 72]) 1 (fun _ _ _ _ => rfl) ?_
      obtain ⟨hi8, h⟩ := cd_n h
      have h := sb_e h
      refine py_si (pc := 47) (len := 1) (cs := [72]) (t := 29) (n := 10) rfl rfl rfl hi8 List.mem_cons_self hS7 ?_
      have hS10 : oS (uI h6 72 (gI h6 69 3).toNatClampNeg (Int32.ofInt 0)) := oS_uI (cs := [72]) (t := 29) (n := 10) rfl List.mem_cons_self hS7
      generalize (uI h6 72 (gI h6 69 3).toNatClampNeg (Int32.ofInt 0)) = h9 at h hS10 ⊢
      refine py_its (pc := 48) (pc1 := 49) (lv1 := [(0, .ref 69), (1, .int a1)]) (st1 := [.ref 69]) 1 (fun _ _ _ _ => rfl) ?_
      refine py_g1 73 (pc := 49) (len := 3) (cs := [69]) rfl rfl rfl List.mem_cons_self hS10 ?_
      refine py_its (pc := 52) (pc1 := 53) (lv1 := [(0, .ref 69), (1, .int a1)]) (st1 := [.ref 69, .ref 73]) 1 (fun _ _ _ _ => rfl) ?_
      refine py_gI (pc := 53) (len := 3) (cs := [69]) rfl rfl rfl List.mem_cons_self hS10 ?_
      refine py_its (pc := 56) (pc1 := 57) (lv1 := [(0, .ref 69), (1, .int a1)]) (st1 := [.int (Int32.ofInt 0), .int (gI h9 69 3), .ref 73]) 1 (fun _ _ _ _ => rfl) ?_
      obtain ⟨hi11, h⟩ := cd_n h
      have h := sb_e h
      refine py_si (pc := 57) (len := 1) (cs := [73]) (t := 30) (n := 10) rfl rfl rfl hi11 List.mem_cons_self hS10 ?_
      have hS13 : oS (uI h9 73 (gI h9 69 3).toNatClampNeg (Int32.ofInt 0)) := oS_uI (cs := [73]) (t := 30) (n := 10) rfl List.mem_cons_self hS10
      generalize (uI h9 73 (gI h9 69 3).toNatClampNeg (Int32.ofInt 0)) = h12 at h hS13 ⊢
      refine py_its (pc := 58) (pc1 := 59) (lv1 := [(0, .ref 69), (1, .int a1)]) (st1 := [.ref 69]) 1 (fun _ _ _ _ => rfl) ?_
      refine py_g1 74 (pc := 59) (len := 3) (cs := [69]) rfl rfl rfl List.mem_cons_self hS13 ?_
      refine py_its (pc := 62) (pc1 := 63) (lv1 := [(0, .ref 69), (1, .int a1)]) (st1 := [.ref 69, .ref 74]) 1 (fun _ _ _ _ => rfl) ?_
      refine py_gI (pc := 63) (len := 3) (cs := [69]) rfl rfl rfl List.mem_cons_self hS13 ?_
      refine py_its (pc := 66) (pc1 := 67) (lv1 := [(0, .ref 69), (1, .int a1)]) (st1 := [.int (Int32.ofInt (-1)), .int (gI h12 69 3), .ref 74]) 1 (fun _ _ _ _ => rfl) ?_
      obtain ⟨hi14, h⟩ := cd_n h
      have h := sb_e h
      refine py_si (pc := 67) (len := 1) (cs := [74]) (t := 31) (n := 10) rfl rfl rfl hi14 List.mem_cons_self hS13 ?_
      have hS16 : oS (uI h12 74 (gI h12 69 3).toNatClampNeg (Int32.ofInt (-1))) := oS_uI (cs := [74]) (t := 31) (n := 10) rfl List.mem_cons_self hS13
      generalize (uI h12 74 (gI h12 69 3).toNatClampNeg (Int32.ofInt (-1))) = h15 at h hS16 ⊢
      refine py_its (pc := 68) (pc1 := 69) (lv1 := [(0, .ref 69), (1, .int a1)]) (st1 := [.ref 69]) 1 (fun _ _ _ _ => rfl) ?_
      refine py_g1 75 (pc := 69) (len := 3) (cs := [69]) rfl rfl rfl List.mem_cons_self hS16 ?_
      refine py_its (pc := 72) (pc1 := 73) (lv1 := [(0, .ref 69), (1, .int a1)]) (st1 := [.ref 69, .ref 75]) 1 (fun _ _ _ _ => rfl) ?_
      refine py_gI (pc := 73) (len := 3) (cs := [69]) rfl rfl rfl List.mem_cons_self hS16 ?_
      refine py_its (pc := 76) (pc1 := 79) (lv1 := [(0, .ref 69), (1, .int a1)]) (st1 := [.int (Int16.ofInt 1000).toInt32, .int (gI h15 69 3), .ref 75]) 1 (fun _ _ _ _ => rfl) ?_
      obtain ⟨hi17, h⟩ := cd_n h
      have h := sb_e h
      refine py_si (pc := 79) (len := 1) (cs := [75]) (t := 32) (n := 10) rfl rfl rfl hi17 List.mem_cons_self hS16 ?_
      have hS19 : oS (uI h15 75 (gI h15 69 3).toNatClampNeg (Int16.ofInt 1000).toInt32) := oS_uI (cs := [75]) (t := 32) (n := 10) rfl List.mem_cons_self hS16
      generalize (uI h15 75 (gI h15 69 3).toNatClampNeg (Int16.ofInt 1000).toInt32) = h18 at h hS19 ⊢
      refine py_its (pc := 80) (pc1 := 82) (lv1 := [(0, .ref 69), (1, .int a1)]) (st1 := [.ref 69, .ref 69]) 2 (fun _ _ _ _ => rfl) ?_
      refine py_gI (pc := 82) (len := 3) (cs := [69]) rfl rfl rfl List.mem_cons_self hS19 ?_
      refine py_its (pc := 85) (pc1 := 87) (lv1 := [(0, .ref 69), (1, .int a1)]) (st1 := [.int ((gI h18 69 3) + (Int32.ofInt 1)), .ref 69]) 2 (fun _ _ _ _ => rfl) ?_
      have h := sb_e h
      refine py_pI (pc := 87) (len := 3) (cs := [69]) rfl rfl rfl List.mem_cons_self hS19 rfl rfl rfl rfl ?_
      have hS21 : oS (wF h18 69 3 (.int ((gI h18 69 3) + (Int32.ofInt 1)))) := oS_wI (cs := [69]) (ci := 9) rfl List.mem_cons_self hS19
      generalize (wF h18 69 3 (.int ((gI h18 69 3) + (Int32.ofInt 1)))) = h20 at h hS21 ⊢
      refine py_its (pc := 90) (pc1 := 91) (lv1 := [(0, .ref 69), (1, .int a1)]) (st1 := [.ref 69]) 1 (fun _ _ _ _ => rfl) ?_
      refine py_gI (pc := 91) (len := 3) (cs := [69]) rfl rfl rfl List.mem_cons_self hS21 ?_
      refine py_its (pc := 94) (pc1 := 96) (lv1 := [(0, .ref 69), (1, .int a1)]) (st1 := [.int ((gI h20 69 3) - (Int32.ofInt 1))]) 2 (fun _ _ _ _ => rfl) ?_
      have h := Option.some.inj h
      subst h
      exact py_ir (pc := 96) (len := 1) (ty := .int) rfl rfl rfl hS21
    | false =>
      have h := cd_f hb4 h
      refine py_ic (pc := 23) (len := 3) false rfl hb4 ?_
      refine py_its (pc := 26) (pc1 := 27) (lv1 := [(0, .ref 69), (1, .int a1)]) (st1 := [.int (Int32.ofInt (-1))]) 1 (fun _ _ _ _ => rfl) ?_
      have h := Option.some.inj h
      subst h
      exact py_ir (pc := 27) (len := 1) (ty := .int) rfl rfl rfl hS2
/-! M_isPerson -/
noncomputable def fn_M_isPerson (a1 : Int32) (hp : px_H) : Option (Int32) :=
  bif px_zr .boolean (sx_in a1.toInt64 (Int64.ofNat 0) ((gI hp 69 3) - (Int32.ofInt 1)).toInt64) then
  some (sx_in a1.toInt64 (Int64.ofNat 0) ((gI hp 69 3) - (Int32.ofInt 1)).toInt64)
  else none
theorem fx_M_isPerson {a1 : Int32} {hp : px_H} {res : Int32} (hS : oS hp) (h : fn_M_isPerson a1 hp = some res) : px_C nm_T nm_P mi_M_isPerson [.ref 69, .int a1] hp (some (.int res)) hp ∧ oS hp := by
  unfold fn_M_isPerson at h
  refine py_C (M := mm_M_isPerson) rfl (Nat.le_of_ble_eq_true rfl) ?_
  show px_Y mm_M_isPerson 0 [(0, .ref 69), (1, .int a1)] [] hp _ _
  refine py_its (pc := 0) (pc1 := 4) (lv1 := [(0, .ref 69), (1, .int a1)]) (st1 := [.ref 69, .long (Int64.ofNat 0), .long a1.toInt64]) 4 (fun _ _ _ _ => rfl) ?_
  refine py_gI (pc := 4) (len := 3) (cs := [69]) rfl rfl rfl List.mem_cons_self hS ?_
  refine py_its (pc := 7) (pc1 := 10) (lv1 := [(0, .ref 69), (1, .int a1)]) (st1 := [.long ((gI hp 69 3) - (Int32.ofInt 1)).toInt64, .long (Int64.ofNat 0), .long a1.toInt64]) 3 (fun _ _ _ _ => rfl) ?_
  refine py_st (pc := 10) (mi := mi_M_in) (N := mm_M_in) rfl rfl rfl (Nat.le_of_ble_eq_true rfl) (Nat.le_of_ble_eq_true rfl) rfl rfl (sx_in_C a1.toInt64 (Int64.ofNat 0) ((gI hp 69 3) - (Int32.ofInt 1)).toInt64 hp) ?_
  show px_Y mm_M_isPerson 13 [(0, .ref 69), (1, .int a1)] [.int (sx_in a1.toInt64 (Int64.ofNat 0) ((gI hp 69 3) - (Int32.ofInt 1)).toInt64)] hp _ _
  obtain ⟨hz1, h⟩ := cd_n h
  have h := Option.some.inj h
  subst h
  exact py_ir (pc := 13) (len := 1) (ty := .boolean) rfl rfl hz1 hS
/-! M_debt -/
noncomputable def fn_M_debt (a1 : Int32) (a2 : Int32) (hp : px_H) : Option (Int32 × px_H) :=
  sb (wF hp 69 0 (.int (Int32.ofInt 0))) fun h1 =>
  (fn_M_isPerson a1 h1).bind fun q3 =>
  bif px_cmp .eq q3 0 then
    some ((Int32.ofInt (-1)), h1)
  else
    bif px_cmp .ne (sx_in a2.toInt64 (Int64.ofNat 0) (Int64.ofInt 999)) 0 then
      bif px_inR a1 10 then
      bif px_inR a1 10 then
      sb (uI h1 72 a1.toNatClampNeg a2) fun h10 =>
      some ((aI h1 72 a1.toNatClampNeg), h10)
      else none
      else none
    else
      some ((Int32.ofInt (-1)), h1)
theorem fx_M_debt {a1 : Int32} {a2 : Int32} {hp : px_H} {res : Int32 × px_H} (hS : oS hp) (h : fn_M_debt a1 a2 hp = some res) : px_C nm_T nm_P mi_M_debt [.ref 69, .int a1, .int a2] hp (some (.int res.1)) res.2 ∧ oS res.2 := by
  unfold fn_M_debt at h
  refine py_C (M := mm_M_debt) rfl (Nat.le_of_ble_eq_true rfl) ?_
  show px_Y mm_M_debt 0 [(0, .ref 69), (1, .int a1), (2, .int a2)] [] hp _ _
  refine py_its (pc := 0) (pc1 := 2) (lv1 := [(0, .ref 69), (1, .int a1), (2, .int a2)]) (st1 := [.int (Int32.ofInt 0), .ref 69]) 2 (fun _ _ _ _ => rfl) ?_
  have h := sb_e h
  refine py_pI (pc := 2) (len := 3) (cs := [69]) rfl rfl rfl List.mem_cons_self hS rfl rfl rfl rfl ?_
  have hS2 : oS (wF hp 69 0 (.int (Int32.ofInt 0))) := oS_wI (cs := [69]) (ci := 9) rfl List.mem_cons_self hS
  generalize (wF hp 69 0 (.int (Int32.ofInt 0))) = h1 at h hS2 ⊢
  refine py_its (pc := 5) (pc1 := 7) (lv1 := [(0, .ref 69), (1, .int a1), (2, .int a2)]) (st1 := [.int a1, .ref 69]) 2 (fun _ _ _ _ => rfl) ?_
  obtain ⟨q3, hq4, h⟩ := bd_e h
  have hC5 := (fx_M_isPerson hS2 hq4).1
  refine py_vi (pc := 7) (mi := mi_M_isPerson) (cs := [69]) (N := mm_M_isPerson) rfl rfl rfl rfl List.mem_cons_self hS2 rfl (Nat.le_of_ble_eq_true rfl) (Nat.le_of_ble_eq_true rfl) rfl rfl hC5 ?_
  show px_Y mm_M_debt 10 [(0, .ref 69), (1, .int a1), (2, .int a2)] [.int q3] h1 _ _
  cases hb6 : px_cmp .eq q3 0 with
  | true =>
    have h := cd_t hb6 h
    refine py_if (pc := 10) (len := 3) true rfl hb6 ?_
    refine py_its (pc := 25) (pc1 := 26) (lv1 := [(0, .ref 69), (1, .int a1), (2, .int a2)]) (st1 := [.int (Int32.ofInt (-1))]) 1 (fun _ _ _ _ => rfl) ?_
    have h := Option.some.inj h
    subst h
    exact py_ir (pc := 26) (len := 1) (ty := .int) rfl rfl rfl hS2
  | false =>
    have h := cd_f hb6 h
    refine py_if (pc := 10) (len := 3) false rfl hb6 ?_
    refine py_its (pc := 13) (pc1 := 19) (lv1 := [(0, .ref 69), (1, .int a1), (2, .int a2)]) (st1 := [.long (Int64.ofInt 999), .long (Int64.ofNat 0), .long a2.toInt64]) 4 (fun _ _ _ _ => rfl) ?_
    refine py_st (pc := 19) (mi := mi_M_in) (N := mm_M_in) rfl rfl rfl (Nat.le_of_ble_eq_true rfl) (Nat.le_of_ble_eq_true rfl) rfl rfl (sx_in_C a2.toInt64 (Int64.ofNat 0) (Int64.ofInt 999) h1) ?_
    show px_Y mm_M_debt 22 [(0, .ref 69), (1, .int a1), (2, .int a2)] [.int (sx_in a2.toInt64 (Int64.ofNat 0) (Int64.ofInt 999))] h1 _ _
    cases hb7 : px_cmp .ne (sx_in a2.toInt64 (Int64.ofNat 0) (Int64.ofInt 999)) 0 with
    | true =>
      have h := cd_t hb7 h
      refine py_if (pc := 22) (len := 3) true rfl hb7 ?_
      refine py_its (pc := 27) (pc1 := 28) (lv1 := [(0, .ref 69), (1, .int a1), (2, .int a2)]) (st1 := [.ref 69]) 1 (fun _ _ _ _ => rfl) ?_
      refine py_g1 72 (pc := 28) (len := 3) (cs := [69]) rfl rfl rfl List.mem_cons_self hS2 ?_
      refine py_its (pc := 31) (pc1 := 32) (lv1 := [(0, .ref 69), (1, .int a1), (2, .int a2)]) (st1 := [.int a1, .ref 72]) 1 (fun _ _ _ _ => rfl) ?_
      obtain ⟨hi8, h⟩ := cd_n h
      refine py_ai (pc := 32) (len := 1) (cs := [72]) (t := 29) (n := 10) rfl rfl rfl hi8 List.mem_cons_self hS2 ?_
      refine py_its (pc := 33) (pc1 := 35) (lv1 := [(3, .int (aI h1 72 a1.toNatClampNeg)), (0, .ref 69), (1, .int a1), (2, .int a2)]) (st1 := [.ref 69]) 2 (fun _ _ _ _ => rfl) ?_
      refine py_g1 72 (pc := 35) (len := 3) (cs := [69]) rfl rfl rfl List.mem_cons_self hS2 ?_
      refine py_its (pc := 38) (pc1 := 40) (lv1 := [(3, .int (aI h1 72 a1.toNatClampNeg)), (0, .ref 69), (1, .int a1), (2, .int a2)]) (st1 := [.int a2, .int a1, .ref 72]) 2 (fun _ _ _ _ => rfl) ?_
      obtain ⟨hi9, h⟩ := cd_n h
      have h := sb_e h
      refine py_si (pc := 40) (len := 1) (cs := [72]) (t := 29) (n := 10) rfl rfl rfl hi9 List.mem_cons_self hS2 ?_
      have hS11 : oS (uI h1 72 a1.toNatClampNeg a2) := oS_uI (cs := [72]) (t := 29) (n := 10) rfl List.mem_cons_self hS2
      generalize (uI h1 72 a1.toNatClampNeg a2) = h10 at h hS11 ⊢
      refine py_its (pc := 41) (pc1 := 42) (lv1 := [(3, .int (aI h1 72 a1.toNatClampNeg)), (0, .ref 69), (1, .int a1), (2, .int a2)]) (st1 := [.int (aI h1 72 a1.toNatClampNeg)]) 1 (fun _ _ _ _ => rfl) ?_
      have h := Option.some.inj h
      subst h
      exact py_ir (pc := 42) (len := 1) (ty := .int) rfl rfl rfl hS11
    | false =>
      have h := cd_f hb7 h
      refine py_if (pc := 22) (len := 3) false rfl hb7 ?_
      refine py_its (pc := 25) (pc1 := 26) (lv1 := [(0, .ref 69), (1, .int a1), (2, .int a2)]) (st1 := [.int (Int32.ofInt (-1))]) 1 (fun _ _ _ _ => rfl) ?_
      have h := Option.some.inj h
      subst h
      exact py_ir (pc := 26) (len := 1) (ty := .int) rfl rfl rfl hS2
/-! M_away -/
noncomputable def fn_M_away (a1 : Int32) (a2 : Int32) (a3 : Int32) (hp : px_H) : Option (Int32 × px_H) :=
  sb (wF hp 69 0 (.int (Int32.ofInt 0))) fun h1 =>
  (fn_M_isPerson a1 h1).bind fun q3 =>
  bif px_cmp .eq q3 0 then
    some ((Int32.ofInt 0), h1)
  else
    bif px_cmp .eq (sx_in a2.toInt64 (Int64.ofNat 0) (Int64.ofInt 999)) 0 then
      some ((Int32.ofInt 0), h1)
    else
      bif px_cmp .ne (sx_in a3.toInt64 (Int64.ofNat 0) (Int64.ofInt 999)) 0 then
        bif px_inR a1 10 then
        sb (uI h1 73 a1.toNatClampNeg a2) fun h10 =>
        bif px_inR a1 10 then
        sb (uI h10 74 a1.toNatClampNeg a3) fun h13 =>
        some ((Int32.ofInt 1), h13)
        else none
        else none
      else
        some ((Int32.ofInt 0), h1)
theorem fx_M_away {a1 : Int32} {a2 : Int32} {a3 : Int32} {hp : px_H} {res : Int32 × px_H} (hS : oS hp) (h : fn_M_away a1 a2 a3 hp = some res) : px_C nm_T nm_P mi_M_away [.ref 69, .int a1, .int a2, .int a3] hp (some (.int res.1)) res.2 ∧ oS res.2 := by
  unfold fn_M_away at h
  refine py_C (M := mm_M_away) rfl (Nat.le_of_ble_eq_true rfl) ?_
  show px_Y mm_M_away 0 [(0, .ref 69), (1, .int a1), (2, .int a2), (3, .int a3)] [] hp _ _
  refine py_its (pc := 0) (pc1 := 2) (lv1 := [(0, .ref 69), (1, .int a1), (2, .int a2), (3, .int a3)]) (st1 := [.int (Int32.ofInt 0), .ref 69]) 2 (fun _ _ _ _ => rfl) ?_
  have h := sb_e h
  refine py_pI (pc := 2) (len := 3) (cs := [69]) rfl rfl rfl List.mem_cons_self hS rfl rfl rfl rfl ?_
  have hS2 : oS (wF hp 69 0 (.int (Int32.ofInt 0))) := oS_wI (cs := [69]) (ci := 9) rfl List.mem_cons_self hS
  generalize (wF hp 69 0 (.int (Int32.ofInt 0))) = h1 at h hS2 ⊢
  refine py_its (pc := 5) (pc1 := 7) (lv1 := [(0, .ref 69), (1, .int a1), (2, .int a2), (3, .int a3)]) (st1 := [.int a1, .ref 69]) 2 (fun _ _ _ _ => rfl) ?_
  obtain ⟨q3, hq4, h⟩ := bd_e h
  have hC5 := (fx_M_isPerson hS2 hq4).1
  refine py_vi (pc := 7) (mi := mi_M_isPerson) (cs := [69]) (N := mm_M_isPerson) rfl rfl rfl rfl List.mem_cons_self hS2 rfl (Nat.le_of_ble_eq_true rfl) (Nat.le_of_ble_eq_true rfl) rfl rfl hC5 ?_
  show px_Y mm_M_away 10 [(0, .ref 69), (1, .int a1), (2, .int a2), (3, .int a3)] [.int q3] h1 _ _
  cases hb6 : px_cmp .eq q3 0 with
  | true =>
    have h := cd_t hb6 h
    refine py_if (pc := 10) (len := 3) true rfl hb6 ?_
    refine py_its (pc := 37) (pc1 := 38) (lv1 := [(0, .ref 69), (1, .int a1), (2, .int a2), (3, .int a3)]) (st1 := [.int (Int32.ofInt 0)]) 1 (fun _ _ _ _ => rfl) ?_
    have h := Option.some.inj h
    subst h
    exact py_ir (pc := 38) (len := 1) (ty := .boolean) rfl rfl (by decide) hS2
  | false =>
    have h := cd_f hb6 h
    refine py_if (pc := 10) (len := 3) false rfl hb6 ?_
    refine py_its (pc := 13) (pc1 := 19) (lv1 := [(0, .ref 69), (1, .int a1), (2, .int a2), (3, .int a3)]) (st1 := [.long (Int64.ofInt 999), .long (Int64.ofNat 0), .long a2.toInt64]) 4 (fun _ _ _ _ => rfl) ?_
    refine py_st (pc := 19) (mi := mi_M_in) (N := mm_M_in) rfl rfl rfl (Nat.le_of_ble_eq_true rfl) (Nat.le_of_ble_eq_true rfl) rfl rfl (sx_in_C a2.toInt64 (Int64.ofNat 0) (Int64.ofInt 999) h1) ?_
    show px_Y mm_M_away 22 [(0, .ref 69), (1, .int a1), (2, .int a2), (3, .int a3)] [.int (sx_in a2.toInt64 (Int64.ofNat 0) (Int64.ofInt 999))] h1 _ _
    cases hb7 : px_cmp .eq (sx_in a2.toInt64 (Int64.ofNat 0) (Int64.ofInt 999)) 0 with
    | true =>
      have h := cd_t hb7 h
      refine py_if (pc := 22) (len := 3) true rfl hb7 ?_
      refine py_its (pc := 37) (pc1 := 38) (lv1 := [(0, .ref 69), (1, .int a1), (2, .int a2), (3, .int a3)]) (st1 := [.int (Int32.ofInt 0)]) 1 (fun _ _ _ _ => rfl) ?_
      have h := Option.some.inj h
      subst h
      exact py_ir (pc := 38) (len := 1) (ty := .boolean) rfl rfl (by decide) hS2
    | false =>
      have h := cd_f hb7 h
      refine py_if (pc := 22) (len := 3) false rfl hb7 ?_
      refine py_its (pc := 25) (pc1 := 31) (lv1 := [(0, .ref 69), (1, .int a1), (2, .int a2), (3, .int a3)]) (st1 := [.long (Int64.ofInt 999), .long (Int64.ofNat 0), .long a3.toInt64]) 4 (fun _ _ _ _ => rfl) ?_
      refine py_st (pc := 31) (mi := mi_M_in) (N := mm_M_in) rfl rfl rfl (Nat.le_of_ble_eq_true rfl) (Nat.le_of_ble_eq_true rfl) rfl rfl (sx_in_C a3.toInt64 (Int64.ofNat 0) (Int64.ofInt 999) h1) ?_
      show px_Y mm_M_away 34 [(0, .ref 69), (1, .int a1), (2, .int a2), (3, .int a3)] [.int (sx_in a3.toInt64 (Int64.ofNat 0) (Int64.ofInt 999))] h1 _ _
      cases hb8 : px_cmp .ne (sx_in a3.toInt64 (Int64.ofNat 0) (Int64.ofInt 999)) 0 with
      | true =>
        have h := cd_t hb8 h
        refine py_if (pc := 34) (len := 3) true rfl hb8 ?_
        refine py_its (pc := 39) (pc1 := 40) (lv1 := [(0, .ref 69), (1, .int a1), (2, .int a2), (3, .int a3)]) (st1 := [.ref 69]) 1 (fun _ _ _ _ => rfl) ?_
        refine py_g1 73 (pc := 40) (len := 3) (cs := [69]) rfl rfl rfl List.mem_cons_self hS2 ?_
        refine py_its (pc := 43) (pc1 := 45) (lv1 := [(0, .ref 69), (1, .int a1), (2, .int a2), (3, .int a3)]) (st1 := [.int a2, .int a1, .ref 73]) 2 (fun _ _ _ _ => rfl) ?_
        obtain ⟨hi9, h⟩ := cd_n h
        have h := sb_e h
        refine py_si (pc := 45) (len := 1) (cs := [73]) (t := 30) (n := 10) rfl rfl rfl hi9 List.mem_cons_self hS2 ?_
        have hS11 : oS (uI h1 73 a1.toNatClampNeg a2) := oS_uI (cs := [73]) (t := 30) (n := 10) rfl List.mem_cons_self hS2
        generalize (uI h1 73 a1.toNatClampNeg a2) = h10 at h hS11 ⊢
        refine py_its (pc := 46) (pc1 := 47) (lv1 := [(0, .ref 69), (1, .int a1), (2, .int a2), (3, .int a3)]) (st1 := [.ref 69]) 1 (fun _ _ _ _ => rfl) ?_
        refine py_g1 74 (pc := 47) (len := 3) (cs := [69]) rfl rfl rfl List.mem_cons_self hS11 ?_
        refine py_its (pc := 50) (pc1 := 52) (lv1 := [(0, .ref 69), (1, .int a1), (2, .int a2), (3, .int a3)]) (st1 := [.int a3, .int a1, .ref 74]) 2 (fun _ _ _ _ => rfl) ?_
        obtain ⟨hi12, h⟩ := cd_n h
        have h := sb_e h
        refine py_si (pc := 52) (len := 1) (cs := [74]) (t := 31) (n := 10) rfl rfl rfl hi12 List.mem_cons_self hS11 ?_
        have hS14 : oS (uI h10 74 a1.toNatClampNeg a3) := oS_uI (cs := [74]) (t := 31) (n := 10) rfl List.mem_cons_self hS11
        generalize (uI h10 74 a1.toNatClampNeg a3) = h13 at h hS14 ⊢
        refine py_its (pc := 53) (pc1 := 54) (lv1 := [(0, .ref 69), (1, .int a1), (2, .int a2), (3, .int a3)]) (st1 := [.int (Int32.ofInt 1)]) 1 (fun _ _ _ _ => rfl) ?_
        have h := Option.some.inj h
        subst h
        exact py_ir (pc := 54) (len := 1) (ty := .boolean) rfl rfl (by decide) hS14
      | false =>
        have h := cd_f hb8 h
        refine py_if (pc := 34) (len := 3) false rfl hb8 ?_
        refine py_its (pc := 37) (pc1 := 38) (lv1 := [(0, .ref 69), (1, .int a1), (2, .int a2), (3, .int a3)]) (st1 := [.int (Int32.ofInt 0)]) 1 (fun _ _ _ _ => rfl) ?_
        have h := Option.some.inj h
        subst h
        exact py_ir (pc := 38) (len := 1) (ty := .boolean) rfl rfl (by decide) hS2
/-! M_dies -/
noncomputable def fn_M_dies (a1 : Int32) (a2 : Int32) (hp : px_H) : Option (Int32 × px_H) :=
  sb (wF hp 69 0 (.int (Int32.ofInt 0))) fun h1 =>
  (fn_M_isPerson a1 h1).bind fun q3 =>
  bif px_cmp .eq q3 0 then
    some ((Int32.ofInt (-1)), h1)
  else
    bif px_cmp .ne (sx_in a2.toInt64 (Int64.ofNat 0) (Int64.ofInt 1000)) 0 then
      bif px_inR a1 10 then
      bif px_inR a1 10 then
      sb (uI h1 75 a1.toNatClampNeg a2) fun h10 =>
      some ((aI h1 75 a1.toNatClampNeg), h10)
      else none
      else none
    else
      some ((Int32.ofInt (-1)), h1)
theorem fx_M_dies {a1 : Int32} {a2 : Int32} {hp : px_H} {res : Int32 × px_H} (hS : oS hp) (h : fn_M_dies a1 a2 hp = some res) : px_C nm_T nm_P mi_M_dies [.ref 69, .int a1, .int a2] hp (some (.int res.1)) res.2 ∧ oS res.2 := by
  unfold fn_M_dies at h
  refine py_C (M := mm_M_dies) rfl (Nat.le_of_ble_eq_true rfl) ?_
  show px_Y mm_M_dies 0 [(0, .ref 69), (1, .int a1), (2, .int a2)] [] hp _ _
  refine py_its (pc := 0) (pc1 := 2) (lv1 := [(0, .ref 69), (1, .int a1), (2, .int a2)]) (st1 := [.int (Int32.ofInt 0), .ref 69]) 2 (fun _ _ _ _ => rfl) ?_
  have h := sb_e h
  refine py_pI (pc := 2) (len := 3) (cs := [69]) rfl rfl rfl List.mem_cons_self hS rfl rfl rfl rfl ?_
  have hS2 : oS (wF hp 69 0 (.int (Int32.ofInt 0))) := oS_wI (cs := [69]) (ci := 9) rfl List.mem_cons_self hS
  generalize (wF hp 69 0 (.int (Int32.ofInt 0))) = h1 at h hS2 ⊢
  refine py_its (pc := 5) (pc1 := 7) (lv1 := [(0, .ref 69), (1, .int a1), (2, .int a2)]) (st1 := [.int a1, .ref 69]) 2 (fun _ _ _ _ => rfl) ?_
  obtain ⟨q3, hq4, h⟩ := bd_e h
  have hC5 := (fx_M_isPerson hS2 hq4).1
  refine py_vi (pc := 7) (mi := mi_M_isPerson) (cs := [69]) (N := mm_M_isPerson) rfl rfl rfl rfl List.mem_cons_self hS2 rfl (Nat.le_of_ble_eq_true rfl) (Nat.le_of_ble_eq_true rfl) rfl rfl hC5 ?_
  show px_Y mm_M_dies 10 [(0, .ref 69), (1, .int a1), (2, .int a2)] [.int q3] h1 _ _
  cases hb6 : px_cmp .eq q3 0 with
  | true =>
    have h := cd_t hb6 h
    refine py_if (pc := 10) (len := 3) true rfl hb6 ?_
    refine py_its (pc := 25) (pc1 := 26) (lv1 := [(0, .ref 69), (1, .int a1), (2, .int a2)]) (st1 := [.int (Int32.ofInt (-1))]) 1 (fun _ _ _ _ => rfl) ?_
    have h := Option.some.inj h
    subst h
    exact py_ir (pc := 26) (len := 1) (ty := .int) rfl rfl rfl hS2
  | false =>
    have h := cd_f hb6 h
    refine py_if (pc := 10) (len := 3) false rfl hb6 ?_
    refine py_its (pc := 13) (pc1 := 19) (lv1 := [(0, .ref 69), (1, .int a1), (2, .int a2)]) (st1 := [.long (Int64.ofInt 1000), .long (Int64.ofNat 0), .long a2.toInt64]) 4 (fun _ _ _ _ => rfl) ?_
    refine py_st (pc := 19) (mi := mi_M_in) (N := mm_M_in) rfl rfl rfl (Nat.le_of_ble_eq_true rfl) (Nat.le_of_ble_eq_true rfl) rfl rfl (sx_in_C a2.toInt64 (Int64.ofNat 0) (Int64.ofInt 1000) h1) ?_
    show px_Y mm_M_dies 22 [(0, .ref 69), (1, .int a1), (2, .int a2)] [.int (sx_in a2.toInt64 (Int64.ofNat 0) (Int64.ofInt 1000))] h1 _ _
    cases hb7 : px_cmp .ne (sx_in a2.toInt64 (Int64.ofNat 0) (Int64.ofInt 1000)) 0 with
    | true =>
      have h := cd_t hb7 h
      refine py_if (pc := 22) (len := 3) true rfl hb7 ?_
      refine py_its (pc := 27) (pc1 := 28) (lv1 := [(0, .ref 69), (1, .int a1), (2, .int a2)]) (st1 := [.ref 69]) 1 (fun _ _ _ _ => rfl) ?_
      refine py_g1 75 (pc := 28) (len := 3) (cs := [69]) rfl rfl rfl List.mem_cons_self hS2 ?_
      refine py_its (pc := 31) (pc1 := 32) (lv1 := [(0, .ref 69), (1, .int a1), (2, .int a2)]) (st1 := [.int a1, .ref 75]) 1 (fun _ _ _ _ => rfl) ?_
      obtain ⟨hi8, h⟩ := cd_n h
      refine py_ai (pc := 32) (len := 1) (cs := [75]) (t := 32) (n := 10) rfl rfl rfl hi8 List.mem_cons_self hS2 ?_
      refine py_its (pc := 33) (pc1 := 35) (lv1 := [(3, .int (aI h1 75 a1.toNatClampNeg)), (0, .ref 69), (1, .int a1), (2, .int a2)]) (st1 := [.ref 69]) 2 (fun _ _ _ _ => rfl) ?_
      refine py_g1 75 (pc := 35) (len := 3) (cs := [69]) rfl rfl rfl List.mem_cons_self hS2 ?_
      refine py_its (pc := 38) (pc1 := 40) (lv1 := [(3, .int (aI h1 75 a1.toNatClampNeg)), (0, .ref 69), (1, .int a1), (2, .int a2)]) (st1 := [.int a2, .int a1, .ref 75]) 2 (fun _ _ _ _ => rfl) ?_
      obtain ⟨hi9, h⟩ := cd_n h
      have h := sb_e h
      refine py_si (pc := 40) (len := 1) (cs := [75]) (t := 32) (n := 10) rfl rfl rfl hi9 List.mem_cons_self hS2 ?_
      have hS11 : oS (uI h1 75 a1.toNatClampNeg a2) := oS_uI (cs := [75]) (t := 32) (n := 10) rfl List.mem_cons_self hS2
      generalize (uI h1 75 a1.toNatClampNeg a2) = h10 at h hS11 ⊢
      refine py_its (pc := 41) (pc1 := 42) (lv1 := [(3, .int (aI h1 75 a1.toNatClampNeg)), (0, .ref 69), (1, .int a1), (2, .int a2)]) (st1 := [.int (aI h1 75 a1.toNatClampNeg)]) 1 (fun _ _ _ _ => rfl) ?_
      have h := Option.some.inj h
      subst h
      exact py_ir (pc := 42) (len := 1) (ty := .int) rfl rfl rfl hS11
    | false =>
      have h := cd_f hb7 h
      refine py_if (pc := 22) (len := 3) false rfl hb7 ?_
      refine py_its (pc := 25) (pc1 := 26) (lv1 := [(0, .ref 69), (1, .int a1), (2, .int a2)]) (st1 := [.int (Int32.ofInt (-1))]) 1 (fun _ _ _ _ => rfl) ?_
      have h := Option.some.inj h
      subst h
      exact py_ir (pc := 26) (len := 1) (ty := .int) rfl rfl rfl hS2
/-! M_sheet -/
noncomputable def fb_M_sheet_L46 (v1 : Int32) (v2 : Int32) (v4 : Int32) (rc : Int32 → Int32 → Int32 → px_H → Option (Int32 × px_H)) (v5 : Int32) (v6 : Int32) (v7 : Int32) (hp : px_H) : Option (Int32 × px_H) :=
  bif px_cmp .ge v7 (gI hp 69 3) then
    bif px_cmp .ne v1 (Int32.ofInt 3) then
      some (v6, hp)
    else
      some ((Int8.ofInt (-3)).toInt32, hp)
  else
    bif px_cmp .ne v1 0 then
      bif px_cmp .ne v1 (Int32.ofInt 1) then
        bif px_cmp .eq v1 (Int32.ofInt 3) then
          bif px_inR v7 10 then
          sb (uI hp 72 v7.toNatClampNeg (Int32.ofInt 0)) fun h15 =>
          bif px_inR v7 10 then
          rc (v5 + v4) (v6 + (aI h15 72 v7.toNatClampNeg)) (v7 + Int32.ofInt 1) h15
          else none
          else none
        else
          bif px_cmp .lt v7 v2 then
            bif px_inR v7 10 then
            sb (uI hp 72 v7.toNatClampNeg (if (Int32.ofInt 0) < (if v5 < (Int16.ofInt 999).toInt32 then v5 else (Int16.ofInt 999).toInt32) then (if v5 < (Int16.ofInt 999).toInt32 then v5 else (Int16.ofInt 999).toInt32) else (Int32.ofInt 0))) fun h26 =>
            bif px_inR v7 10 then
            rc (v5 + v4) (v6 + (aI h26 72 v7.toNatClampNeg)) (v7 + Int32.ofInt 1) h26
            else none
            else none
          else
            bif px_inR v7 10 then
            sb (uI hp 72 v7.toNatClampNeg (Int32.ofInt 0)) fun h36 =>
            bif px_inR v7 10 then
            rc (v5 + v4) (v6 + (aI h36 72 v7.toNatClampNeg)) (v7 + Int32.ofInt 1) h36
            else none
            else none
      else
        bif px_cmp .eq v1 (Int32.ofInt 3) then
          bif px_inR v7 10 then
          sb (uI hp 72 v7.toNatClampNeg (Int32.ofInt 0)) fun h49 =>
          bif px_inR v7 10 then
          rc (v5 + v4) (v6 + (aI h49 72 v7.toNatClampNeg)) (v7 + Int32.ofInt 1) h49
          else none
          else none
        else
          bif px_cmp .lt v7 v2 then
            bif px_inR v7 10 then
            sb (uI hp 72 v7.toNatClampNeg (if (Int32.ofInt 0) < (if v5.toInt16.toInt32 < (Int16.ofInt 999).toInt32 then v5.toInt16.toInt32 else (Int16.ofInt 999).toInt32) then (if v5.toInt16.toInt32 < (Int16.ofInt 999).toInt32 then v5.toInt16.toInt32 else (Int16.ofInt 999).toInt32) else (Int32.ofInt 0))) fun h60 =>
            bif px_inR v7 10 then
            rc (v5 + v4) (v6 + (aI h60 72 v7.toNatClampNeg)) (v7 + Int32.ofInt 1) h60
            else none
            else none
          else
            bif px_inR v7 10 then
            sb (uI hp 72 v7.toNatClampNeg (Int32.ofInt 0)) fun h70 =>
            bif px_inR v7 10 then
            rc (v5 + v4) (v6 + (aI h70 72 v7.toNatClampNeg)) (v7 + Int32.ofInt 1) h70
            else none
            else none
    else
      bif px_cmp .eq v1 (Int32.ofInt 3) then
        bif px_inR v7 10 then
        sb (uI hp 72 v7.toNatClampNeg (Int32.ofInt 0)) fun h83 =>
        bif px_inR v7 10 then
        rc (v5 + v4) (v6 + (aI h83 72 v7.toNatClampNeg)) (v7 + Int32.ofInt 1) h83
        else none
        else none
      else
        bif px_cmp .lt v7 v2 then
          bif px_inR v7 10 then
          sb (uI hp 72 v7.toNatClampNeg (if (Int32.ofInt 0) < (if v5.toInt8.toInt32 < (Int16.ofInt 999).toInt32 then v5.toInt8.toInt32 else (Int16.ofInt 999).toInt32) then (if v5.toInt8.toInt32 < (Int16.ofInt 999).toInt32 then v5.toInt8.toInt32 else (Int16.ofInt 999).toInt32) else (Int32.ofInt 0))) fun h94 =>
          bif px_inR v7 10 then
          rc (v5 + v4) (v6 + (aI h94 72 v7.toNatClampNeg)) (v7 + Int32.ofInt 1) h94
          else none
          else none
        else
          bif px_inR v7 10 then
          sb (uI hp 72 v7.toNatClampNeg (Int32.ofInt 0)) fun h104 =>
          bif px_inR v7 10 then
          rc (v5 + v4) (v6 + (aI h104 72 v7.toNatClampNeg)) (v7 + Int32.ofInt 1) h104
          else none
          else none
noncomputable def fn_M_sheet_L46 (v1 : Int32) (v2 : Int32) (v4 : Int32) : Nat → Int32 → Int32 → Int32 → px_H → Option (Int32 × px_H)
  | 0 => fun _ _ _ _ => none
  | n + 1 => fb_M_sheet_L46 v1 v2 v4 (fn_M_sheet_L46 v1 v2 v4 n)
theorem fl_M_sheet_L46 {v1 : Int32} {v2 : Int32} {v4 : Int32}  : ∀ (n : Nat) (v5 : Int32) (v6 : Int32) (v7 : Int32) (hp : px_H) (lv : List (Nat × Value)) (res : Int32 × px_H), oS hp → lk lv [(0, .ref 69), (1, .int v1), (2, .int v2), (4, .int v4), (5, .int v5), (6, .int v6), (7, .int v7)] → fn_M_sheet_L46 v1 v2 v4 n v5 v6 v7 hp = some res → px_Y mm_M_sheet 46 lv [] hp (some (.int res.1)) res.2 := by
  intro n
  induction n with
  | zero =>
    intro v5 v6 v7 hp lv res hS hk h
    cases h
  | succ n ih =>
    intro v5 v6 v7 hp lv res hS hk h
    have h : fb_M_sheet_L46 v1 v2 v4 (fn_M_sheet_L46 v1 v2 v4 n) v5 v6 v7 hp = some res := h
    unfold fb_M_sheet_L46 at h
    refine py_il (pc := 46) (len := 2) (j := 7) rfl hk rfl ?_
    refine py_aln (pc := 48) (len := 1) (j := 0) rfl hk rfl ?_
    refine py_gI (pc := 49) (len := 3) (cs := [69]) rfl rfl rfl List.mem_cons_self hS ?_
    cases hb7 : px_cmp .ge v7 (gI hp 69 3) with
    | true =>
      have h := cd_t hb7 h
      refine py_ic (pc := 52) (len := 3) true rfl hb7 ?_
      refine py_iln (pc := 139) (len := 1) (j := 1) rfl hk rfl ?_
      refine py_its (pc := 140) (pc1 := 141) (lv1 := lv) (st1 := [.int (Int32.ofInt 3), .int v1]) 1 (fun _ _ _ _ => rfl) ?_
      cases hb8 : px_cmp .ne v1 (Int32.ofInt 3) with
      | true =>
        have h := cd_t hb8 h
        refine py_ic (pc := 141) (len := 3) true rfl hb8 ?_
        refine py_il (pc := 149) (len := 2) (j := 6) rfl hk rfl ?_
        have h := Option.some.inj h
        subst h
        exact py_ir (pc := 151) (len := 1) (ty := .int) rfl rfl rfl hS
      | false =>
        have h := cd_f hb8 h
        refine py_ic (pc := 141) (len := 3) false rfl hb8 ?_
        refine py_its (pc := 144) (pc1 := 151) (lv1 := lv) (st1 := [.int (Int8.ofInt (-3)).toInt32]) 2 (fun _ _ _ _ => rfl) ?_
        have h := Option.some.inj h
        subst h
        exact py_ir (pc := 151) (len := 1) (ty := .int) rfl rfl rfl hS
    | false =>
      have h := cd_f hb7 h
      refine py_ic (pc := 52) (len := 3) false rfl hb7 ?_
      refine py_iln (pc := 55) (len := 1) (j := 1) rfl hk rfl ?_
      cases hb9 : px_cmp .ne v1 0 with
      | true =>
        have h := cd_t hb9 h
        refine py_if (pc := 56) (len := 3) true rfl hb9 ?_
        refine py_iln (pc := 65) (len := 1) (j := 1) rfl hk rfl ?_
        refine py_its (pc := 66) (pc1 := 67) (lv1 := lv) (st1 := [.int (Int32.ofInt 1), .int v1]) 1 (fun _ _ _ _ => rfl) ?_
        cases hb10 : px_cmp .ne v1 (Int32.ofInt 1) with
        | true =>
          have h := cd_t hb10 h
          refine py_ic (pc := 67) (len := 3) true rfl hb10 ?_
          refine py_il (pc := 76) (len := 2) (j := 5) rfl hk rfl ?_
          refine py_sti (pc := 78) (len := 2) (j := 8) rfl rfl hk (fun lv11 hk12 => ?_)
          have hk12 : lk lv11 [(8, .int v5), (0, .ref 69), (1, .int v1), (2, .int v2), (4, .int v4), (5, .int v5), (6, .int v6), (7, .int v7)] := hk12
          refine py_aln (pc := 80) (len := 1) (j := 0) rfl hk12 rfl ?_
          refine py_g1 72 (pc := 81) (len := 3) (cs := [69]) rfl rfl rfl List.mem_cons_self hS ?_
          refine py_il (pc := 84) (len := 2) (j := 7) rfl hk12 rfl ?_
          refine py_iln (pc := 86) (len := 1) (j := 1) rfl hk12 rfl ?_
          refine py_its (pc := 87) (pc1 := 88) (lv1 := lv11) (st1 := [.int (Int32.ofInt 3), .int v1, .int v7, .ref 72]) 1 (fun _ _ _ _ => rfl) ?_
          cases hb13 : px_cmp .eq v1 (Int32.ofInt 3) with
          | true =>
            have h := cd_t hb13 h
            refine py_ic (pc := 88) (len := 3) true rfl hb13 ?_
            refine py_its (pc := 97) (pc1 := 113) (lv1 := lv11) (st1 := [.int (Int32.ofInt 0), .int v7, .ref 72]) 2 (fun _ _ _ _ => rfl) ?_
            obtain ⟨hi14, h⟩ := cd_n h
            have h := sb_e h
            refine py_si (pc := 113) (len := 1) (cs := [72]) (t := 29) (n := 10) rfl rfl rfl hi14 List.mem_cons_self hS ?_
            have hS16 : oS (uI hp 72 v7.toNatClampNeg (Int32.ofInt 0)) := oS_uI (cs := [72]) (t := 29) (n := 10) rfl List.mem_cons_self hS
            generalize (uI hp 72 v7.toNatClampNeg (Int32.ofInt 0)) = h15 at h hS16 ⊢
            refine py_il (pc := 114) (len := 2) (j := 6) rfl hk12 rfl ?_
            refine py_aln (pc := 116) (len := 1) (j := 0) rfl hk12 rfl ?_
            refine py_g1 72 (pc := 117) (len := 3) (cs := [69]) rfl rfl rfl List.mem_cons_self hS16 ?_
            refine py_il (pc := 120) (len := 2) (j := 7) rfl hk12 rfl ?_
            obtain ⟨hi17, h⟩ := cd_n h
            refine py_ai (pc := 122) (len := 1) (cs := [72]) (t := 29) (n := 10) rfl rfl rfl hi17 List.mem_cons_self hS16 ?_
            refine py_its (pc := 123) (pc1 := 124) (lv1 := lv11) (st1 := [.int (v6 + (aI h15 72 v7.toNatClampNeg))]) 1 (fun _ _ _ _ => rfl) ?_
            refine py_sti (pc := 124) (len := 2) (j := 6) rfl rfl hk12 (fun lv18 hk19 => ?_)
            have hk19 : lk lv18 [(6, .int (v6 + (aI h15 72 v7.toNatClampNeg))), (8, .int v5), (0, .ref 69), (1, .int v1), (2, .int v2), (4, .int v4), (5, .int v5), (7, .int v7)] := hk19
            refine py_il (pc := 126) (len := 2) (j := 5) rfl hk19 rfl ?_
            refine py_il (pc := 128) (len := 2) (j := 4) rfl hk19 rfl ?_
            refine py_its (pc := 130) (pc1 := 131) (lv1 := lv18) (st1 := [.int (v5 + v4)]) 1 (fun _ _ _ _ => rfl) ?_
            refine py_sti (pc := 131) (len := 2) (j := 5) rfl rfl hk19 (fun lv20 hk21 => ?_)
            have hk21 : lk lv20 [(5, .int (v5 + v4)), (6, .int (v6 + (aI h15 72 v7.toNatClampNeg))), (8, .int v5), (0, .ref 69), (1, .int v1), (2, .int v2), (4, .int v4), (7, .int v7)] := hk21
            refine py_inc (pc := 133) (len := 3) (j := 7) (n := 1) rfl rfl hk21 rfl (fun lv22 hk23 => ?_)
            have hk23 : lk lv22 [(7, .int (v7 + Int32.ofInt 1)), (5, .int (v5 + v4)), (6, .int (v6 + (aI h15 72 v7.toNatClampNeg))), (8, .int v5), (0, .ref 69), (1, .int v1), (2, .int v2), (4, .int v4)] := hk23
            refine py_its (pc := 136) (pc1 := 46) (lv1 := lv22) (st1 := []) 1 (fun _ _ _ _ => rfl) ?_
            exact ih (v5 + v4) (v6 + (aI h15 72 v7.toNatClampNeg)) (v7 + Int32.ofInt 1) h15 lv22 _ hS16 ⟨lk_find hk23 rfl, lk_find hk23 rfl, lk_find hk23 rfl, lk_find hk23 rfl, lk_find hk23 rfl, lk_find hk23 rfl, lk_find hk23 rfl, trivial⟩ h
          | false =>
            have h := cd_f hb13 h
            refine py_ic (pc := 88) (len := 3) false rfl hb13 ?_
            refine py_il (pc := 91) (len := 2) (j := 7) rfl hk12 rfl ?_
            refine py_iln (pc := 93) (len := 1) (j := 2) rfl hk12 rfl ?_
            cases hb24 : px_cmp .lt v7 v2 with
            | true =>
              have h := cd_t hb24 h
              refine py_ic (pc := 94) (len := 3) true rfl hb24 ?_
              refine py_its (pc := 101) (pc1 := 105) (lv1 := lv11) (st1 := [.int (Int16.ofInt 999).toInt32, .int (Int32.ofInt 0), .int v7, .ref 72]) 2 (fun _ _ _ _ => rfl) ?_
              refine py_il (pc := 105) (len := 2) (j := 8) rfl hk12 rfl ?_
              refine py_mth (pc := 107) (w := 1) (st' := [.int (if v5 < (Int16.ofInt 999).toInt32 then v5 else (Int16.ofInt 999).toInt32), .int (Int32.ofInt 0), .int v7, .ref 72]) rfl rfl rfl (Nat.le_of_ble_eq_true rfl) ?_
              refine py_mth (pc := 110) (w := 0) (st' := [.int (if (Int32.ofInt 0) < (if v5 < (Int16.ofInt 999).toInt32 then v5 else (Int16.ofInt 999).toInt32) then (if v5 < (Int16.ofInt 999).toInt32 then v5 else (Int16.ofInt 999).toInt32) else (Int32.ofInt 0)), .int v7, .ref 72]) rfl rfl rfl (Nat.le_of_ble_eq_true rfl) ?_
              obtain ⟨hi25, h⟩ := cd_n h
              have h := sb_e h
              refine py_si (pc := 113) (len := 1) (cs := [72]) (t := 29) (n := 10) rfl rfl rfl hi25 List.mem_cons_self hS ?_
              have hS27 : oS (uI hp 72 v7.toNatClampNeg (if (Int32.ofInt 0) < (if v5 < (Int16.ofInt 999).toInt32 then v5 else (Int16.ofInt 999).toInt32) then (if v5 < (Int16.ofInt 999).toInt32 then v5 else (Int16.ofInt 999).toInt32) else (Int32.ofInt 0))) := oS_uI (cs := [72]) (t := 29) (n := 10) rfl List.mem_cons_self hS
              generalize (uI hp 72 v7.toNatClampNeg (if (Int32.ofInt 0) < (if v5 < (Int16.ofInt 999).toInt32 then v5 else (Int16.ofInt 999).toInt32) then (if v5 < (Int16.ofInt 999).toInt32 then v5 else (Int16.ofInt 999).toInt32) else (Int32.ofInt 0))) = h26 at h hS27 ⊢
              refine py_il (pc := 114) (len := 2) (j := 6) rfl hk12 rfl ?_
              refine py_aln (pc := 116) (len := 1) (j := 0) rfl hk12 rfl ?_
              refine py_g1 72 (pc := 117) (len := 3) (cs := [69]) rfl rfl rfl List.mem_cons_self hS27 ?_
              refine py_il (pc := 120) (len := 2) (j := 7) rfl hk12 rfl ?_
              obtain ⟨hi28, h⟩ := cd_n h
              refine py_ai (pc := 122) (len := 1) (cs := [72]) (t := 29) (n := 10) rfl rfl rfl hi28 List.mem_cons_self hS27 ?_
              refine py_its (pc := 123) (pc1 := 124) (lv1 := lv11) (st1 := [.int (v6 + (aI h26 72 v7.toNatClampNeg))]) 1 (fun _ _ _ _ => rfl) ?_
              refine py_sti (pc := 124) (len := 2) (j := 6) rfl rfl hk12 (fun lv29 hk30 => ?_)
              have hk30 : lk lv29 [(6, .int (v6 + (aI h26 72 v7.toNatClampNeg))), (8, .int v5), (0, .ref 69), (1, .int v1), (2, .int v2), (4, .int v4), (5, .int v5), (7, .int v7)] := hk30
              refine py_il (pc := 126) (len := 2) (j := 5) rfl hk30 rfl ?_
              refine py_il (pc := 128) (len := 2) (j := 4) rfl hk30 rfl ?_
              refine py_its (pc := 130) (pc1 := 131) (lv1 := lv29) (st1 := [.int (v5 + v4)]) 1 (fun _ _ _ _ => rfl) ?_
              refine py_sti (pc := 131) (len := 2) (j := 5) rfl rfl hk30 (fun lv31 hk32 => ?_)
              have hk32 : lk lv31 [(5, .int (v5 + v4)), (6, .int (v6 + (aI h26 72 v7.toNatClampNeg))), (8, .int v5), (0, .ref 69), (1, .int v1), (2, .int v2), (4, .int v4), (7, .int v7)] := hk32
              refine py_inc (pc := 133) (len := 3) (j := 7) (n := 1) rfl rfl hk32 rfl (fun lv33 hk34 => ?_)
              have hk34 : lk lv33 [(7, .int (v7 + Int32.ofInt 1)), (5, .int (v5 + v4)), (6, .int (v6 + (aI h26 72 v7.toNatClampNeg))), (8, .int v5), (0, .ref 69), (1, .int v1), (2, .int v2), (4, .int v4)] := hk34
              refine py_its (pc := 136) (pc1 := 46) (lv1 := lv33) (st1 := []) 1 (fun _ _ _ _ => rfl) ?_
              exact ih (v5 + v4) (v6 + (aI h26 72 v7.toNatClampNeg)) (v7 + Int32.ofInt 1) h26 lv33 _ hS27 ⟨lk_find hk34 rfl, lk_find hk34 rfl, lk_find hk34 rfl, lk_find hk34 rfl, lk_find hk34 rfl, lk_find hk34 rfl, lk_find hk34 rfl, trivial⟩ h
            | false =>
              have h := cd_f hb24 h
              refine py_ic (pc := 94) (len := 3) false rfl hb24 ?_
              refine py_its (pc := 97) (pc1 := 113) (lv1 := lv11) (st1 := [.int (Int32.ofInt 0), .int v7, .ref 72]) 2 (fun _ _ _ _ => rfl) ?_
              obtain ⟨hi35, h⟩ := cd_n h
              have h := sb_e h
              refine py_si (pc := 113) (len := 1) (cs := [72]) (t := 29) (n := 10) rfl rfl rfl hi35 List.mem_cons_self hS ?_
              have hS37 : oS (uI hp 72 v7.toNatClampNeg (Int32.ofInt 0)) := oS_uI (cs := [72]) (t := 29) (n := 10) rfl List.mem_cons_self hS
              generalize (uI hp 72 v7.toNatClampNeg (Int32.ofInt 0)) = h36 at h hS37 ⊢
              refine py_il (pc := 114) (len := 2) (j := 6) rfl hk12 rfl ?_
              refine py_aln (pc := 116) (len := 1) (j := 0) rfl hk12 rfl ?_
              refine py_g1 72 (pc := 117) (len := 3) (cs := [69]) rfl rfl rfl List.mem_cons_self hS37 ?_
              refine py_il (pc := 120) (len := 2) (j := 7) rfl hk12 rfl ?_
              obtain ⟨hi38, h⟩ := cd_n h
              refine py_ai (pc := 122) (len := 1) (cs := [72]) (t := 29) (n := 10) rfl rfl rfl hi38 List.mem_cons_self hS37 ?_
              refine py_its (pc := 123) (pc1 := 124) (lv1 := lv11) (st1 := [.int (v6 + (aI h36 72 v7.toNatClampNeg))]) 1 (fun _ _ _ _ => rfl) ?_
              refine py_sti (pc := 124) (len := 2) (j := 6) rfl rfl hk12 (fun lv39 hk40 => ?_)
              have hk40 : lk lv39 [(6, .int (v6 + (aI h36 72 v7.toNatClampNeg))), (8, .int v5), (0, .ref 69), (1, .int v1), (2, .int v2), (4, .int v4), (5, .int v5), (7, .int v7)] := hk40
              refine py_il (pc := 126) (len := 2) (j := 5) rfl hk40 rfl ?_
              refine py_il (pc := 128) (len := 2) (j := 4) rfl hk40 rfl ?_
              refine py_its (pc := 130) (pc1 := 131) (lv1 := lv39) (st1 := [.int (v5 + v4)]) 1 (fun _ _ _ _ => rfl) ?_
              refine py_sti (pc := 131) (len := 2) (j := 5) rfl rfl hk40 (fun lv41 hk42 => ?_)
              have hk42 : lk lv41 [(5, .int (v5 + v4)), (6, .int (v6 + (aI h36 72 v7.toNatClampNeg))), (8, .int v5), (0, .ref 69), (1, .int v1), (2, .int v2), (4, .int v4), (7, .int v7)] := hk42
              refine py_inc (pc := 133) (len := 3) (j := 7) (n := 1) rfl rfl hk42 rfl (fun lv43 hk44 => ?_)
              have hk44 : lk lv43 [(7, .int (v7 + Int32.ofInt 1)), (5, .int (v5 + v4)), (6, .int (v6 + (aI h36 72 v7.toNatClampNeg))), (8, .int v5), (0, .ref 69), (1, .int v1), (2, .int v2), (4, .int v4)] := hk44
              refine py_its (pc := 136) (pc1 := 46) (lv1 := lv43) (st1 := []) 1 (fun _ _ _ _ => rfl) ?_
              exact ih (v5 + v4) (v6 + (aI h36 72 v7.toNatClampNeg)) (v7 + Int32.ofInt 1) h36 lv43 _ hS37 ⟨lk_find hk44 rfl, lk_find hk44 rfl, lk_find hk44 rfl, lk_find hk44 rfl, lk_find hk44 rfl, lk_find hk44 rfl, lk_find hk44 rfl, trivial⟩ h
        | false =>
          have h := cd_f hb10 h
          refine py_ic (pc := 67) (len := 3) false rfl hb10 ?_
          refine py_il (pc := 70) (len := 2) (j := 5) rfl hk rfl ?_
          refine py_its (pc := 72) (pc1 := 78) (lv1 := lv) (st1 := [.int v5.toInt16.toInt32]) 2 (fun _ _ _ _ => rfl) ?_
          refine py_sti (pc := 78) (len := 2) (j := 8) rfl rfl hk (fun lv45 hk46 => ?_)
          have hk46 : lk lv45 [(8, .int v5.toInt16.toInt32), (0, .ref 69), (1, .int v1), (2, .int v2), (4, .int v4), (5, .int v5), (6, .int v6), (7, .int v7)] := hk46
          refine py_aln (pc := 80) (len := 1) (j := 0) rfl hk46 rfl ?_
          refine py_g1 72 (pc := 81) (len := 3) (cs := [69]) rfl rfl rfl List.mem_cons_self hS ?_
          refine py_il (pc := 84) (len := 2) (j := 7) rfl hk46 rfl ?_
          refine py_iln (pc := 86) (len := 1) (j := 1) rfl hk46 rfl ?_
          refine py_its (pc := 87) (pc1 := 88) (lv1 := lv45) (st1 := [.int (Int32.ofInt 3), .int v1, .int v7, .ref 72]) 1 (fun _ _ _ _ => rfl) ?_
          cases hb47 : px_cmp .eq v1 (Int32.ofInt 3) with
          | true =>
            have h := cd_t hb47 h
            refine py_ic (pc := 88) (len := 3) true rfl hb47 ?_
            refine py_its (pc := 97) (pc1 := 113) (lv1 := lv45) (st1 := [.int (Int32.ofInt 0), .int v7, .ref 72]) 2 (fun _ _ _ _ => rfl) ?_
            obtain ⟨hi48, h⟩ := cd_n h
            have h := sb_e h
            refine py_si (pc := 113) (len := 1) (cs := [72]) (t := 29) (n := 10) rfl rfl rfl hi48 List.mem_cons_self hS ?_
            have hS50 : oS (uI hp 72 v7.toNatClampNeg (Int32.ofInt 0)) := oS_uI (cs := [72]) (t := 29) (n := 10) rfl List.mem_cons_self hS
            generalize (uI hp 72 v7.toNatClampNeg (Int32.ofInt 0)) = h49 at h hS50 ⊢
            refine py_il (pc := 114) (len := 2) (j := 6) rfl hk46 rfl ?_
            refine py_aln (pc := 116) (len := 1) (j := 0) rfl hk46 rfl ?_
            refine py_g1 72 (pc := 117) (len := 3) (cs := [69]) rfl rfl rfl List.mem_cons_self hS50 ?_
            refine py_il (pc := 120) (len := 2) (j := 7) rfl hk46 rfl ?_
            obtain ⟨hi51, h⟩ := cd_n h
            refine py_ai (pc := 122) (len := 1) (cs := [72]) (t := 29) (n := 10) rfl rfl rfl hi51 List.mem_cons_self hS50 ?_
            refine py_its (pc := 123) (pc1 := 124) (lv1 := lv45) (st1 := [.int (v6 + (aI h49 72 v7.toNatClampNeg))]) 1 (fun _ _ _ _ => rfl) ?_
            refine py_sti (pc := 124) (len := 2) (j := 6) rfl rfl hk46 (fun lv52 hk53 => ?_)
            have hk53 : lk lv52 [(6, .int (v6 + (aI h49 72 v7.toNatClampNeg))), (8, .int v5.toInt16.toInt32), (0, .ref 69), (1, .int v1), (2, .int v2), (4, .int v4), (5, .int v5), (7, .int v7)] := hk53
            refine py_il (pc := 126) (len := 2) (j := 5) rfl hk53 rfl ?_
            refine py_il (pc := 128) (len := 2) (j := 4) rfl hk53 rfl ?_
            refine py_its (pc := 130) (pc1 := 131) (lv1 := lv52) (st1 := [.int (v5 + v4)]) 1 (fun _ _ _ _ => rfl) ?_
            refine py_sti (pc := 131) (len := 2) (j := 5) rfl rfl hk53 (fun lv54 hk55 => ?_)
            have hk55 : lk lv54 [(5, .int (v5 + v4)), (6, .int (v6 + (aI h49 72 v7.toNatClampNeg))), (8, .int v5.toInt16.toInt32), (0, .ref 69), (1, .int v1), (2, .int v2), (4, .int v4), (7, .int v7)] := hk55
            refine py_inc (pc := 133) (len := 3) (j := 7) (n := 1) rfl rfl hk55 rfl (fun lv56 hk57 => ?_)
            have hk57 : lk lv56 [(7, .int (v7 + Int32.ofInt 1)), (5, .int (v5 + v4)), (6, .int (v6 + (aI h49 72 v7.toNatClampNeg))), (8, .int v5.toInt16.toInt32), (0, .ref 69), (1, .int v1), (2, .int v2), (4, .int v4)] := hk57
            refine py_its (pc := 136) (pc1 := 46) (lv1 := lv56) (st1 := []) 1 (fun _ _ _ _ => rfl) ?_
            exact ih (v5 + v4) (v6 + (aI h49 72 v7.toNatClampNeg)) (v7 + Int32.ofInt 1) h49 lv56 _ hS50 ⟨lk_find hk57 rfl, lk_find hk57 rfl, lk_find hk57 rfl, lk_find hk57 rfl, lk_find hk57 rfl, lk_find hk57 rfl, lk_find hk57 rfl, trivial⟩ h
          | false =>
            have h := cd_f hb47 h
            refine py_ic (pc := 88) (len := 3) false rfl hb47 ?_
            refine py_il (pc := 91) (len := 2) (j := 7) rfl hk46 rfl ?_
            refine py_iln (pc := 93) (len := 1) (j := 2) rfl hk46 rfl ?_
            cases hb58 : px_cmp .lt v7 v2 with
            | true =>
              have h := cd_t hb58 h
              refine py_ic (pc := 94) (len := 3) true rfl hb58 ?_
              refine py_its (pc := 101) (pc1 := 105) (lv1 := lv45) (st1 := [.int (Int16.ofInt 999).toInt32, .int (Int32.ofInt 0), .int v7, .ref 72]) 2 (fun _ _ _ _ => rfl) ?_
              refine py_il (pc := 105) (len := 2) (j := 8) rfl hk46 rfl ?_
              refine py_mth (pc := 107) (w := 1) (st' := [.int (if v5.toInt16.toInt32 < (Int16.ofInt 999).toInt32 then v5.toInt16.toInt32 else (Int16.ofInt 999).toInt32), .int (Int32.ofInt 0), .int v7, .ref 72]) rfl rfl rfl (Nat.le_of_ble_eq_true rfl) ?_
              refine py_mth (pc := 110) (w := 0) (st' := [.int (if (Int32.ofInt 0) < (if v5.toInt16.toInt32 < (Int16.ofInt 999).toInt32 then v5.toInt16.toInt32 else (Int16.ofInt 999).toInt32) then (if v5.toInt16.toInt32 < (Int16.ofInt 999).toInt32 then v5.toInt16.toInt32 else (Int16.ofInt 999).toInt32) else (Int32.ofInt 0)), .int v7, .ref 72]) rfl rfl rfl (Nat.le_of_ble_eq_true rfl) ?_
              obtain ⟨hi59, h⟩ := cd_n h
              have h := sb_e h
              refine py_si (pc := 113) (len := 1) (cs := [72]) (t := 29) (n := 10) rfl rfl rfl hi59 List.mem_cons_self hS ?_
              have hS61 : oS (uI hp 72 v7.toNatClampNeg (if (Int32.ofInt 0) < (if v5.toInt16.toInt32 < (Int16.ofInt 999).toInt32 then v5.toInt16.toInt32 else (Int16.ofInt 999).toInt32) then (if v5.toInt16.toInt32 < (Int16.ofInt 999).toInt32 then v5.toInt16.toInt32 else (Int16.ofInt 999).toInt32) else (Int32.ofInt 0))) := oS_uI (cs := [72]) (t := 29) (n := 10) rfl List.mem_cons_self hS
              generalize (uI hp 72 v7.toNatClampNeg (if (Int32.ofInt 0) < (if v5.toInt16.toInt32 < (Int16.ofInt 999).toInt32 then v5.toInt16.toInt32 else (Int16.ofInt 999).toInt32) then (if v5.toInt16.toInt32 < (Int16.ofInt 999).toInt32 then v5.toInt16.toInt32 else (Int16.ofInt 999).toInt32) else (Int32.ofInt 0))) = h60 at h hS61 ⊢
              refine py_il (pc := 114) (len := 2) (j := 6) rfl hk46 rfl ?_
              refine py_aln (pc := 116) (len := 1) (j := 0) rfl hk46 rfl ?_
              refine py_g1 72 (pc := 117) (len := 3) (cs := [69]) rfl rfl rfl List.mem_cons_self hS61 ?_
              refine py_il (pc := 120) (len := 2) (j := 7) rfl hk46 rfl ?_
              obtain ⟨hi62, h⟩ := cd_n h
              refine py_ai (pc := 122) (len := 1) (cs := [72]) (t := 29) (n := 10) rfl rfl rfl hi62 List.mem_cons_self hS61 ?_
              refine py_its (pc := 123) (pc1 := 124) (lv1 := lv45) (st1 := [.int (v6 + (aI h60 72 v7.toNatClampNeg))]) 1 (fun _ _ _ _ => rfl) ?_
              refine py_sti (pc := 124) (len := 2) (j := 6) rfl rfl hk46 (fun lv63 hk64 => ?_)
              have hk64 : lk lv63 [(6, .int (v6 + (aI h60 72 v7.toNatClampNeg))), (8, .int v5.toInt16.toInt32), (0, .ref 69), (1, .int v1), (2, .int v2), (4, .int v4), (5, .int v5), (7, .int v7)] := hk64
              refine py_il (pc := 126) (len := 2) (j := 5) rfl hk64 rfl ?_
              refine py_il (pc := 128) (len := 2) (j := 4) rfl hk64 rfl ?_
              refine py_its (pc := 130) (pc1 := 131) (lv1 := lv63) (st1 := [.int (v5 + v4)]) 1 (fun _ _ _ _ => rfl) ?_
              refine py_sti (pc := 131) (len := 2) (j := 5) rfl rfl hk64 (fun lv65 hk66 => ?_)
              have hk66 : lk lv65 [(5, .int (v5 + v4)), (6, .int (v6 + (aI h60 72 v7.toNatClampNeg))), (8, .int v5.toInt16.toInt32), (0, .ref 69), (1, .int v1), (2, .int v2), (4, .int v4), (7, .int v7)] := hk66
              refine py_inc (pc := 133) (len := 3) (j := 7) (n := 1) rfl rfl hk66 rfl (fun lv67 hk68 => ?_)
              have hk68 : lk lv67 [(7, .int (v7 + Int32.ofInt 1)), (5, .int (v5 + v4)), (6, .int (v6 + (aI h60 72 v7.toNatClampNeg))), (8, .int v5.toInt16.toInt32), (0, .ref 69), (1, .int v1), (2, .int v2), (4, .int v4)] := hk68
              refine py_its (pc := 136) (pc1 := 46) (lv1 := lv67) (st1 := []) 1 (fun _ _ _ _ => rfl) ?_
              exact ih (v5 + v4) (v6 + (aI h60 72 v7.toNatClampNeg)) (v7 + Int32.ofInt 1) h60 lv67 _ hS61 ⟨lk_find hk68 rfl, lk_find hk68 rfl, lk_find hk68 rfl, lk_find hk68 rfl, lk_find hk68 rfl, lk_find hk68 rfl, lk_find hk68 rfl, trivial⟩ h
            | false =>
              have h := cd_f hb58 h
              refine py_ic (pc := 94) (len := 3) false rfl hb58 ?_
              refine py_its (pc := 97) (pc1 := 113) (lv1 := lv45) (st1 := [.int (Int32.ofInt 0), .int v7, .ref 72]) 2 (fun _ _ _ _ => rfl) ?_
              obtain ⟨hi69, h⟩ := cd_n h
              have h := sb_e h
              refine py_si (pc := 113) (len := 1) (cs := [72]) (t := 29) (n := 10) rfl rfl rfl hi69 List.mem_cons_self hS ?_
              have hS71 : oS (uI hp 72 v7.toNatClampNeg (Int32.ofInt 0)) := oS_uI (cs := [72]) (t := 29) (n := 10) rfl List.mem_cons_self hS
              generalize (uI hp 72 v7.toNatClampNeg (Int32.ofInt 0)) = h70 at h hS71 ⊢
              refine py_il (pc := 114) (len := 2) (j := 6) rfl hk46 rfl ?_
              refine py_aln (pc := 116) (len := 1) (j := 0) rfl hk46 rfl ?_
              refine py_g1 72 (pc := 117) (len := 3) (cs := [69]) rfl rfl rfl List.mem_cons_self hS71 ?_
              refine py_il (pc := 120) (len := 2) (j := 7) rfl hk46 rfl ?_
              obtain ⟨hi72, h⟩ := cd_n h
              refine py_ai (pc := 122) (len := 1) (cs := [72]) (t := 29) (n := 10) rfl rfl rfl hi72 List.mem_cons_self hS71 ?_
              refine py_its (pc := 123) (pc1 := 124) (lv1 := lv45) (st1 := [.int (v6 + (aI h70 72 v7.toNatClampNeg))]) 1 (fun _ _ _ _ => rfl) ?_
              refine py_sti (pc := 124) (len := 2) (j := 6) rfl rfl hk46 (fun lv73 hk74 => ?_)
              have hk74 : lk lv73 [(6, .int (v6 + (aI h70 72 v7.toNatClampNeg))), (8, .int v5.toInt16.toInt32), (0, .ref 69), (1, .int v1), (2, .int v2), (4, .int v4), (5, .int v5), (7, .int v7)] := hk74
              refine py_il (pc := 126) (len := 2) (j := 5) rfl hk74 rfl ?_
              refine py_il (pc := 128) (len := 2) (j := 4) rfl hk74 rfl ?_
              refine py_its (pc := 130) (pc1 := 131) (lv1 := lv73) (st1 := [.int (v5 + v4)]) 1 (fun _ _ _ _ => rfl) ?_
              refine py_sti (pc := 131) (len := 2) (j := 5) rfl rfl hk74 (fun lv75 hk76 => ?_)
              have hk76 : lk lv75 [(5, .int (v5 + v4)), (6, .int (v6 + (aI h70 72 v7.toNatClampNeg))), (8, .int v5.toInt16.toInt32), (0, .ref 69), (1, .int v1), (2, .int v2), (4, .int v4), (7, .int v7)] := hk76
              refine py_inc (pc := 133) (len := 3) (j := 7) (n := 1) rfl rfl hk76 rfl (fun lv77 hk78 => ?_)
              have hk78 : lk lv77 [(7, .int (v7 + Int32.ofInt 1)), (5, .int (v5 + v4)), (6, .int (v6 + (aI h70 72 v7.toNatClampNeg))), (8, .int v5.toInt16.toInt32), (0, .ref 69), (1, .int v1), (2, .int v2), (4, .int v4)] := hk78
              refine py_its (pc := 136) (pc1 := 46) (lv1 := lv77) (st1 := []) 1 (fun _ _ _ _ => rfl) ?_
              exact ih (v5 + v4) (v6 + (aI h70 72 v7.toNatClampNeg)) (v7 + Int32.ofInt 1) h70 lv77 _ hS71 ⟨lk_find hk78 rfl, lk_find hk78 rfl, lk_find hk78 rfl, lk_find hk78 rfl, lk_find hk78 rfl, lk_find hk78 rfl, lk_find hk78 rfl, trivial⟩ h
      | false =>
        have h := cd_f hb9 h
        refine py_if (pc := 56) (len := 3) false rfl hb9 ?_
        refine py_il (pc := 59) (len := 2) (j := 5) rfl hk rfl ?_
        refine py_its (pc := 61) (pc1 := 78) (lv1 := lv) (st1 := [.int v5.toInt8.toInt32]) 2 (fun _ _ _ _ => rfl) ?_
        refine py_sti (pc := 78) (len := 2) (j := 8) rfl rfl hk (fun lv79 hk80 => ?_)
        have hk80 : lk lv79 [(8, .int v5.toInt8.toInt32), (0, .ref 69), (1, .int v1), (2, .int v2), (4, .int v4), (5, .int v5), (6, .int v6), (7, .int v7)] := hk80
        refine py_aln (pc := 80) (len := 1) (j := 0) rfl hk80 rfl ?_
        refine py_g1 72 (pc := 81) (len := 3) (cs := [69]) rfl rfl rfl List.mem_cons_self hS ?_
        refine py_il (pc := 84) (len := 2) (j := 7) rfl hk80 rfl ?_
        refine py_iln (pc := 86) (len := 1) (j := 1) rfl hk80 rfl ?_
        refine py_its (pc := 87) (pc1 := 88) (lv1 := lv79) (st1 := [.int (Int32.ofInt 3), .int v1, .int v7, .ref 72]) 1 (fun _ _ _ _ => rfl) ?_
        cases hb81 : px_cmp .eq v1 (Int32.ofInt 3) with
        | true =>
          have h := cd_t hb81 h
          refine py_ic (pc := 88) (len := 3) true rfl hb81 ?_
          refine py_its (pc := 97) (pc1 := 113) (lv1 := lv79) (st1 := [.int (Int32.ofInt 0), .int v7, .ref 72]) 2 (fun _ _ _ _ => rfl) ?_
          obtain ⟨hi82, h⟩ := cd_n h
          have h := sb_e h
          refine py_si (pc := 113) (len := 1) (cs := [72]) (t := 29) (n := 10) rfl rfl rfl hi82 List.mem_cons_self hS ?_
          have hS84 : oS (uI hp 72 v7.toNatClampNeg (Int32.ofInt 0)) := oS_uI (cs := [72]) (t := 29) (n := 10) rfl List.mem_cons_self hS
          generalize (uI hp 72 v7.toNatClampNeg (Int32.ofInt 0)) = h83 at h hS84 ⊢
          refine py_il (pc := 114) (len := 2) (j := 6) rfl hk80 rfl ?_
          refine py_aln (pc := 116) (len := 1) (j := 0) rfl hk80 rfl ?_
          refine py_g1 72 (pc := 117) (len := 3) (cs := [69]) rfl rfl rfl List.mem_cons_self hS84 ?_
          refine py_il (pc := 120) (len := 2) (j := 7) rfl hk80 rfl ?_
          obtain ⟨hi85, h⟩ := cd_n h
          refine py_ai (pc := 122) (len := 1) (cs := [72]) (t := 29) (n := 10) rfl rfl rfl hi85 List.mem_cons_self hS84 ?_
          refine py_its (pc := 123) (pc1 := 124) (lv1 := lv79) (st1 := [.int (v6 + (aI h83 72 v7.toNatClampNeg))]) 1 (fun _ _ _ _ => rfl) ?_
          refine py_sti (pc := 124) (len := 2) (j := 6) rfl rfl hk80 (fun lv86 hk87 => ?_)
          have hk87 : lk lv86 [(6, .int (v6 + (aI h83 72 v7.toNatClampNeg))), (8, .int v5.toInt8.toInt32), (0, .ref 69), (1, .int v1), (2, .int v2), (4, .int v4), (5, .int v5), (7, .int v7)] := hk87
          refine py_il (pc := 126) (len := 2) (j := 5) rfl hk87 rfl ?_
          refine py_il (pc := 128) (len := 2) (j := 4) rfl hk87 rfl ?_
          refine py_its (pc := 130) (pc1 := 131) (lv1 := lv86) (st1 := [.int (v5 + v4)]) 1 (fun _ _ _ _ => rfl) ?_
          refine py_sti (pc := 131) (len := 2) (j := 5) rfl rfl hk87 (fun lv88 hk89 => ?_)
          have hk89 : lk lv88 [(5, .int (v5 + v4)), (6, .int (v6 + (aI h83 72 v7.toNatClampNeg))), (8, .int v5.toInt8.toInt32), (0, .ref 69), (1, .int v1), (2, .int v2), (4, .int v4), (7, .int v7)] := hk89
          refine py_inc (pc := 133) (len := 3) (j := 7) (n := 1) rfl rfl hk89 rfl (fun lv90 hk91 => ?_)
          have hk91 : lk lv90 [(7, .int (v7 + Int32.ofInt 1)), (5, .int (v5 + v4)), (6, .int (v6 + (aI h83 72 v7.toNatClampNeg))), (8, .int v5.toInt8.toInt32), (0, .ref 69), (1, .int v1), (2, .int v2), (4, .int v4)] := hk91
          refine py_its (pc := 136) (pc1 := 46) (lv1 := lv90) (st1 := []) 1 (fun _ _ _ _ => rfl) ?_
          exact ih (v5 + v4) (v6 + (aI h83 72 v7.toNatClampNeg)) (v7 + Int32.ofInt 1) h83 lv90 _ hS84 ⟨lk_find hk91 rfl, lk_find hk91 rfl, lk_find hk91 rfl, lk_find hk91 rfl, lk_find hk91 rfl, lk_find hk91 rfl, lk_find hk91 rfl, trivial⟩ h
        | false =>
          have h := cd_f hb81 h
          refine py_ic (pc := 88) (len := 3) false rfl hb81 ?_
          refine py_il (pc := 91) (len := 2) (j := 7) rfl hk80 rfl ?_
          refine py_iln (pc := 93) (len := 1) (j := 2) rfl hk80 rfl ?_
          cases hb92 : px_cmp .lt v7 v2 with
          | true =>
            have h := cd_t hb92 h
            refine py_ic (pc := 94) (len := 3) true rfl hb92 ?_
            refine py_its (pc := 101) (pc1 := 105) (lv1 := lv79) (st1 := [.int (Int16.ofInt 999).toInt32, .int (Int32.ofInt 0), .int v7, .ref 72]) 2 (fun _ _ _ _ => rfl) ?_
            refine py_il (pc := 105) (len := 2) (j := 8) rfl hk80 rfl ?_
            refine py_mth (pc := 107) (w := 1) (st' := [.int (if v5.toInt8.toInt32 < (Int16.ofInt 999).toInt32 then v5.toInt8.toInt32 else (Int16.ofInt 999).toInt32), .int (Int32.ofInt 0), .int v7, .ref 72]) rfl rfl rfl (Nat.le_of_ble_eq_true rfl) ?_
            refine py_mth (pc := 110) (w := 0) (st' := [.int (if (Int32.ofInt 0) < (if v5.toInt8.toInt32 < (Int16.ofInt 999).toInt32 then v5.toInt8.toInt32 else (Int16.ofInt 999).toInt32) then (if v5.toInt8.toInt32 < (Int16.ofInt 999).toInt32 then v5.toInt8.toInt32 else (Int16.ofInt 999).toInt32) else (Int32.ofInt 0)), .int v7, .ref 72]) rfl rfl rfl (Nat.le_of_ble_eq_true rfl) ?_
            obtain ⟨hi93, h⟩ := cd_n h
            have h := sb_e h
            refine py_si (pc := 113) (len := 1) (cs := [72]) (t := 29) (n := 10) rfl rfl rfl hi93 List.mem_cons_self hS ?_
            have hS95 : oS (uI hp 72 v7.toNatClampNeg (if (Int32.ofInt 0) < (if v5.toInt8.toInt32 < (Int16.ofInt 999).toInt32 then v5.toInt8.toInt32 else (Int16.ofInt 999).toInt32) then (if v5.toInt8.toInt32 < (Int16.ofInt 999).toInt32 then v5.toInt8.toInt32 else (Int16.ofInt 999).toInt32) else (Int32.ofInt 0))) := oS_uI (cs := [72]) (t := 29) (n := 10) rfl List.mem_cons_self hS
            generalize (uI hp 72 v7.toNatClampNeg (if (Int32.ofInt 0) < (if v5.toInt8.toInt32 < (Int16.ofInt 999).toInt32 then v5.toInt8.toInt32 else (Int16.ofInt 999).toInt32) then (if v5.toInt8.toInt32 < (Int16.ofInt 999).toInt32 then v5.toInt8.toInt32 else (Int16.ofInt 999).toInt32) else (Int32.ofInt 0))) = h94 at h hS95 ⊢
            refine py_il (pc := 114) (len := 2) (j := 6) rfl hk80 rfl ?_
            refine py_aln (pc := 116) (len := 1) (j := 0) rfl hk80 rfl ?_
            refine py_g1 72 (pc := 117) (len := 3) (cs := [69]) rfl rfl rfl List.mem_cons_self hS95 ?_
            refine py_il (pc := 120) (len := 2) (j := 7) rfl hk80 rfl ?_
            obtain ⟨hi96, h⟩ := cd_n h
            refine py_ai (pc := 122) (len := 1) (cs := [72]) (t := 29) (n := 10) rfl rfl rfl hi96 List.mem_cons_self hS95 ?_
            refine py_its (pc := 123) (pc1 := 124) (lv1 := lv79) (st1 := [.int (v6 + (aI h94 72 v7.toNatClampNeg))]) 1 (fun _ _ _ _ => rfl) ?_
            refine py_sti (pc := 124) (len := 2) (j := 6) rfl rfl hk80 (fun lv97 hk98 => ?_)
            have hk98 : lk lv97 [(6, .int (v6 + (aI h94 72 v7.toNatClampNeg))), (8, .int v5.toInt8.toInt32), (0, .ref 69), (1, .int v1), (2, .int v2), (4, .int v4), (5, .int v5), (7, .int v7)] := hk98
            refine py_il (pc := 126) (len := 2) (j := 5) rfl hk98 rfl ?_
            refine py_il (pc := 128) (len := 2) (j := 4) rfl hk98 rfl ?_
            refine py_its (pc := 130) (pc1 := 131) (lv1 := lv97) (st1 := [.int (v5 + v4)]) 1 (fun _ _ _ _ => rfl) ?_
            refine py_sti (pc := 131) (len := 2) (j := 5) rfl rfl hk98 (fun lv99 hk100 => ?_)
            have hk100 : lk lv99 [(5, .int (v5 + v4)), (6, .int (v6 + (aI h94 72 v7.toNatClampNeg))), (8, .int v5.toInt8.toInt32), (0, .ref 69), (1, .int v1), (2, .int v2), (4, .int v4), (7, .int v7)] := hk100
            refine py_inc (pc := 133) (len := 3) (j := 7) (n := 1) rfl rfl hk100 rfl (fun lv101 hk102 => ?_)
            have hk102 : lk lv101 [(7, .int (v7 + Int32.ofInt 1)), (5, .int (v5 + v4)), (6, .int (v6 + (aI h94 72 v7.toNatClampNeg))), (8, .int v5.toInt8.toInt32), (0, .ref 69), (1, .int v1), (2, .int v2), (4, .int v4)] := hk102
            refine py_its (pc := 136) (pc1 := 46) (lv1 := lv101) (st1 := []) 1 (fun _ _ _ _ => rfl) ?_
            exact ih (v5 + v4) (v6 + (aI h94 72 v7.toNatClampNeg)) (v7 + Int32.ofInt 1) h94 lv101 _ hS95 ⟨lk_find hk102 rfl, lk_find hk102 rfl, lk_find hk102 rfl, lk_find hk102 rfl, lk_find hk102 rfl, lk_find hk102 rfl, lk_find hk102 rfl, trivial⟩ h
          | false =>
            have h := cd_f hb92 h
            refine py_ic (pc := 94) (len := 3) false rfl hb92 ?_
            refine py_its (pc := 97) (pc1 := 113) (lv1 := lv79) (st1 := [.int (Int32.ofInt 0), .int v7, .ref 72]) 2 (fun _ _ _ _ => rfl) ?_
            obtain ⟨hi103, h⟩ := cd_n h
            have h := sb_e h
            refine py_si (pc := 113) (len := 1) (cs := [72]) (t := 29) (n := 10) rfl rfl rfl hi103 List.mem_cons_self hS ?_
            have hS105 : oS (uI hp 72 v7.toNatClampNeg (Int32.ofInt 0)) := oS_uI (cs := [72]) (t := 29) (n := 10) rfl List.mem_cons_self hS
            generalize (uI hp 72 v7.toNatClampNeg (Int32.ofInt 0)) = h104 at h hS105 ⊢
            refine py_il (pc := 114) (len := 2) (j := 6) rfl hk80 rfl ?_
            refine py_aln (pc := 116) (len := 1) (j := 0) rfl hk80 rfl ?_
            refine py_g1 72 (pc := 117) (len := 3) (cs := [69]) rfl rfl rfl List.mem_cons_self hS105 ?_
            refine py_il (pc := 120) (len := 2) (j := 7) rfl hk80 rfl ?_
            obtain ⟨hi106, h⟩ := cd_n h
            refine py_ai (pc := 122) (len := 1) (cs := [72]) (t := 29) (n := 10) rfl rfl rfl hi106 List.mem_cons_self hS105 ?_
            refine py_its (pc := 123) (pc1 := 124) (lv1 := lv79) (st1 := [.int (v6 + (aI h104 72 v7.toNatClampNeg))]) 1 (fun _ _ _ _ => rfl) ?_
            refine py_sti (pc := 124) (len := 2) (j := 6) rfl rfl hk80 (fun lv107 hk108 => ?_)
            have hk108 : lk lv107 [(6, .int (v6 + (aI h104 72 v7.toNatClampNeg))), (8, .int v5.toInt8.toInt32), (0, .ref 69), (1, .int v1), (2, .int v2), (4, .int v4), (5, .int v5), (7, .int v7)] := hk108
            refine py_il (pc := 126) (len := 2) (j := 5) rfl hk108 rfl ?_
            refine py_il (pc := 128) (len := 2) (j := 4) rfl hk108 rfl ?_
            refine py_its (pc := 130) (pc1 := 131) (lv1 := lv107) (st1 := [.int (v5 + v4)]) 1 (fun _ _ _ _ => rfl) ?_
            refine py_sti (pc := 131) (len := 2) (j := 5) rfl rfl hk108 (fun lv109 hk110 => ?_)
            have hk110 : lk lv109 [(5, .int (v5 + v4)), (6, .int (v6 + (aI h104 72 v7.toNatClampNeg))), (8, .int v5.toInt8.toInt32), (0, .ref 69), (1, .int v1), (2, .int v2), (4, .int v4), (7, .int v7)] := hk110
            refine py_inc (pc := 133) (len := 3) (j := 7) (n := 1) rfl rfl hk110 rfl (fun lv111 hk112 => ?_)
            have hk112 : lk lv111 [(7, .int (v7 + Int32.ofInt 1)), (5, .int (v5 + v4)), (6, .int (v6 + (aI h104 72 v7.toNatClampNeg))), (8, .int v5.toInt8.toInt32), (0, .ref 69), (1, .int v1), (2, .int v2), (4, .int v4)] := hk112
            refine py_its (pc := 136) (pc1 := 46) (lv1 := lv111) (st1 := []) 1 (fun _ _ _ _ => rfl) ?_
            exact ih (v5 + v4) (v6 + (aI h104 72 v7.toNatClampNeg)) (v7 + Int32.ofInt 1) h104 lv111 _ hS105 ⟨lk_find hk112 rfl, lk_find hk112 rfl, lk_find hk112 rfl, lk_find hk112 rfl, lk_find hk112 rfl, lk_find hk112 rfl, lk_find hk112 rfl, trivial⟩ h
noncomputable def fn_M_sheet (a1 : Int32) (a2 : Int32) (a3 : Int32) (a4 : Int32) (hp : px_H) : Option (Int32 × px_H) :=
  sb (wF hp 69 0 (.int (Int32.ofInt 0))) fun h1 =>
  bif px_cmp .eq (sx_in a1.toInt64 (Int64.ofNat 0) (Int64.ofInt 3)) 0 then
    some ((Int32.ofInt (-1)), h1)
  else
    bif px_cmp .le a2 (Int8.ofInt 10).toInt32 then
      bif px_cmp .eq a1 (Int32.ofInt 3) then
        fn_M_sheet_L46 a1 a2 a4 fu a3 (Int32.ofInt 0) (Int32.ofInt 0) h1
      else
        bif px_cmp .ge a2 0 then
          fn_M_sheet_L46 a1 a2 a4 fu a3 (Int32.ofInt 0) (Int32.ofInt 0) h1
        else
          some ((Int8.ofInt (-2)).toInt32, h1)
    else
      some ((Int32.ofInt (-1)), h1)
theorem fx_M_sheet {a1 : Int32} {a2 : Int32} {a3 : Int32} {a4 : Int32} {hp : px_H} {res : Int32 × px_H} (hS : oS hp) (h : fn_M_sheet a1 a2 a3 a4 hp = some res) : px_C nm_T nm_P mi_M_sheet [.ref 69, .int a1, .int a2, .int a3, .int a4] hp (some (.int res.1)) res.2 ∧ oS res.2 := by
  unfold fn_M_sheet at h
  refine py_C (M := mm_M_sheet) rfl (Nat.le_of_ble_eq_true rfl) ?_
  show px_Y mm_M_sheet 0 [(0, .ref 69), (1, .int a1), (2, .int a2), (3, .int a3), (4, .int a4)] [] hp _ _
  refine py_its (pc := 0) (pc1 := 2) (lv1 := [(0, .ref 69), (1, .int a1), (2, .int a2), (3, .int a3), (4, .int a4)]) (st1 := [.int (Int32.ofInt 0), .ref 69]) 2 (fun _ _ _ _ => rfl) ?_
  have h := sb_e h
  refine py_pI (pc := 2) (len := 3) (cs := [69]) rfl rfl rfl List.mem_cons_self hS rfl rfl rfl rfl ?_
  have hS2 : oS (wF hp 69 0 (.int (Int32.ofInt 0))) := oS_wI (cs := [69]) (ci := 9) rfl List.mem_cons_self hS
  generalize (wF hp 69 0 (.int (Int32.ofInt 0))) = h1 at h hS2 ⊢
  refine py_its (pc := 5) (pc1 := 11) (lv1 := [(0, .ref 69), (1, .int a1), (2, .int a2), (3, .int a3), (4, .int a4)]) (st1 := [.long (Int64.ofInt 3), .long (Int64.ofNat 0), .long a1.toInt64]) 4 (fun _ _ _ _ => rfl) ?_
  refine py_st (pc := 11) (mi := mi_M_in) (N := mm_M_in) rfl rfl rfl (Nat.le_of_ble_eq_true rfl) (Nat.le_of_ble_eq_true rfl) rfl rfl (sx_in_C a1.toInt64 (Int64.ofNat 0) (Int64.ofInt 3) h1) ?_
  show px_Y mm_M_sheet 14 [(0, .ref 69), (1, .int a1), (2, .int a2), (3, .int a3), (4, .int a4)] [.int (sx_in a1.toInt64 (Int64.ofNat 0) (Int64.ofInt 3))] h1 _ _
  cases hb3 : px_cmp .eq (sx_in a1.toInt64 (Int64.ofNat 0) (Int64.ofInt 3)) 0 with
  | true =>
    have h := cd_t hb3 h
    refine py_if (pc := 14) (len := 3) true rfl hb3 ?_
    refine py_its (pc := 23) (pc1 := 24) (lv1 := [(0, .ref 69), (1, .int a1), (2, .int a2), (3, .int a3), (4, .int a4)]) (st1 := [.int (Int32.ofInt (-1))]) 1 (fun _ _ _ _ => rfl) ?_
    have h := Option.some.inj h
    subst h
    exact py_ir (pc := 24) (len := 1) (ty := .int) rfl rfl rfl hS2
  | false =>
    have h := cd_f hb3 h
    refine py_if (pc := 14) (len := 3) false rfl hb3 ?_
    refine py_its (pc := 17) (pc1 := 20) (lv1 := [(0, .ref 69), (1, .int a1), (2, .int a2), (3, .int a3), (4, .int a4)]) (st1 := [.int (Int8.ofInt 10).toInt32, .int a2]) 2 (fun _ _ _ _ => rfl) ?_
    cases hb4 : px_cmp .le a2 (Int8.ofInt 10).toInt32 with
    | true =>
      have h := cd_t hb4 h
      refine py_ic (pc := 20) (len := 3) true rfl hb4 ?_
      refine py_its (pc := 25) (pc1 := 27) (lv1 := [(0, .ref 69), (1, .int a1), (2, .int a2), (3, .int a3), (4, .int a4)]) (st1 := [.int (Int32.ofInt 3), .int a1]) 2 (fun _ _ _ _ => rfl) ?_
      cases hb5 : px_cmp .eq a1 (Int32.ofInt 3) with
      | true =>
        have h := cd_t hb5 h
        refine py_ic (pc := 27) (len := 3) true rfl hb5 ?_
        refine py_its (pc := 37) (pc1 := 46) (lv1 := [(7, .int (Int32.ofInt 0)), (6, .int (Int32.ofInt 0)), (5, .int a3), (0, .ref 69), (1, .int a1), (2, .int a2), (3, .int a3), (4, .int a4)]) (st1 := []) 6 (fun _ _ _ _ => rfl) ?_
        exact fl_M_sheet_L46 fu a3 (Int32.ofInt 0) (Int32.ofInt 0) h1 [(7, .int (Int32.ofInt 0)), (6, .int (Int32.ofInt 0)), (5, .int a3), (0, .ref 69), (1, .int a1), (2, .int a2), (3, .int a3), (4, .int a4)] _ hS2 ⟨rfl, rfl, rfl, rfl, rfl, rfl, rfl, trivial⟩ h
      | false =>
        have h := cd_f hb5 h
        refine py_ic (pc := 27) (len := 3) false rfl hb5 ?_
        refine py_its (pc := 30) (pc1 := 31) (lv1 := [(0, .ref 69), (1, .int a1), (2, .int a2), (3, .int a3), (4, .int a4)]) (st1 := [.int a2]) 1 (fun _ _ _ _ => rfl) ?_
        cases hb6 : px_cmp .ge a2 0 with
        | true =>
          have h := cd_t hb6 h
          refine py_if (pc := 31) (len := 3) true rfl hb6 ?_
          refine py_its (pc := 37) (pc1 := 46) (lv1 := [(7, .int (Int32.ofInt 0)), (6, .int (Int32.ofInt 0)), (5, .int a3), (0, .ref 69), (1, .int a1), (2, .int a2), (3, .int a3), (4, .int a4)]) (st1 := []) 6 (fun _ _ _ _ => rfl) ?_
          exact fl_M_sheet_L46 fu a3 (Int32.ofInt 0) (Int32.ofInt 0) h1 [(7, .int (Int32.ofInt 0)), (6, .int (Int32.ofInt 0)), (5, .int a3), (0, .ref 69), (1, .int a1), (2, .int a2), (3, .int a3), (4, .int a4)] _ hS2 ⟨rfl, rfl, rfl, rfl, rfl, rfl, rfl, trivial⟩ h
        | false =>
          have h := cd_f hb6 h
          refine py_if (pc := 31) (len := 3) false rfl hb6 ?_
          refine py_its (pc := 34) (pc1 := 36) (lv1 := [(0, .ref 69), (1, .int a1), (2, .int a2), (3, .int a3), (4, .int a4)]) (st1 := [.int (Int8.ofInt (-2)).toInt32]) 1 (fun _ _ _ _ => rfl) ?_
          have h := Option.some.inj h
          subst h
          exact py_ir (pc := 36) (len := 1) (ty := .int) rfl rfl rfl hS2
    | false =>
      have h := cd_f hb4 h
      refine py_ic (pc := 20) (len := 3) false rfl hb4 ?_
      refine py_its (pc := 23) (pc1 := 24) (lv1 := [(0, .ref 69), (1, .int a1), (2, .int a2), (3, .int a3), (4, .int a4)]) (st1 := [.int (Int32.ofInt (-1))]) 1 (fun _ _ _ _ => rfl) ?_
      have h := Option.some.inj h
      subst h
      exact py_ir (pc := 24) (len := 1) (ty := .int) rfl rfl rfl hS2
/-! M_isBag -/
noncomputable def fn_M_isBag (a0 : Int32) (hp : px_H) : Option (Int32) :=
  bif px_zr .boolean (sx_in a0.toInt64 (Int64.ofNat 0) (Int64.ofNat 1)) then
  some (sx_in a0.toInt64 (Int64.ofNat 0) (Int64.ofNat 1))
  else none
theorem fx_M_isBag {a0 : Int32} {hp : px_H} {res : Int32} (hS : oS hp) (h : fn_M_isBag a0 hp = some res) : px_C nm_T nm_P mi_M_isBag [.int a0] hp (some (.int res)) hp ∧ oS hp := by
  unfold fn_M_isBag at h
  refine py_C (M := mm_M_isBag) rfl (Nat.le_of_ble_eq_true rfl) ?_
  show px_Y mm_M_isBag 0 [(0, .int a0)] [] hp _ _
  refine py_its (pc := 0) (pc1 := 4) (lv1 := [(0, .int a0)]) (st1 := [.long (Int64.ofNat 1), .long (Int64.ofNat 0), .long a0.toInt64]) 4 (fun _ _ _ _ => rfl) ?_
  refine py_st (pc := 4) (mi := mi_M_in) (N := mm_M_in) rfl rfl rfl (Nat.le_of_ble_eq_true rfl) (Nat.le_of_ble_eq_true rfl) rfl rfl (sx_in_C a0.toInt64 (Int64.ofNat 0) (Int64.ofNat 1) hp) ?_
  show px_Y mm_M_isBag 7 [(0, .int a0)] [.int (sx_in a0.toInt64 (Int64.ofNat 0) (Int64.ofNat 1))] hp _ _
  obtain ⟨hz1, h⟩ := cd_n h
  have h := Option.some.inj h
  subst h
  exact py_ir (pc := 7) (len := 1) (ty := .boolean) rfl rfl hz1 hS
/-! M_isSet -/
noncomputable def fn_M_isSet (a1 : Int32) (hp : px_H) : Option (Int32) :=
  bif px_zr .boolean (sx_in a1.toInt64 (Int64.ofNat 0) (((Int32.ofInt 1) <<< ((gI hp 69 3) &&& 31)) - (Int32.ofInt 1)).toInt64) then
  some (sx_in a1.toInt64 (Int64.ofNat 0) (((Int32.ofInt 1) <<< ((gI hp 69 3) &&& 31)) - (Int32.ofInt 1)).toInt64)
  else none
theorem fx_M_isSet {a1 : Int32} {hp : px_H} {res : Int32} (hS : oS hp) (h : fn_M_isSet a1 hp = some res) : px_C nm_T nm_P mi_M_isSet [.ref 69, .int a1] hp (some (.int res)) hp ∧ oS hp := by
  unfold fn_M_isSet at h
  refine py_C (M := mm_M_isSet) rfl (Nat.le_of_ble_eq_true rfl) ?_
  show px_Y mm_M_isSet 0 [(0, .ref 69), (1, .int a1)] [] hp _ _
  refine py_its (pc := 0) (pc1 := 5) (lv1 := [(0, .ref 69), (1, .int a1)]) (st1 := [.ref 69, .int (Int32.ofInt 1), .long (Int64.ofNat 0), .long a1.toInt64]) 5 (fun _ _ _ _ => rfl) ?_
  refine py_gI (pc := 5) (len := 3) (cs := [69]) rfl rfl rfl List.mem_cons_self hS ?_
  refine py_its (pc := 8) (pc1 := 12) (lv1 := [(0, .ref 69), (1, .int a1)]) (st1 := [.long (((Int32.ofInt 1) <<< ((gI hp 69 3) &&& 31)) - (Int32.ofInt 1)).toInt64, .long (Int64.ofNat 0), .long a1.toInt64]) 4 (fun _ _ _ _ => rfl) ?_
  refine py_st (pc := 12) (mi := mi_M_in) (N := mm_M_in) rfl rfl rfl (Nat.le_of_ble_eq_true rfl) (Nat.le_of_ble_eq_true rfl) rfl rfl (sx_in_C a1.toInt64 (Int64.ofNat 0) (((Int32.ofInt 1) <<< ((gI hp 69 3) &&& 31)) - (Int32.ofInt 1)).toInt64 hp) ?_
  show px_Y mm_M_isSet 15 [(0, .ref 69), (1, .int a1)] [.int (sx_in a1.toInt64 (Int64.ofNat 0) (((Int32.ofInt 1) <<< ((gI hp 69 3) &&& 31)) - (Int32.ofInt 1)).toInt64)] hp _ _
  obtain ⟨hz1, h⟩ := cd_n h
  have h := Option.some.inj h
  subst h
  exact py_ir (pc := 15) (len := 1) (ty := .boolean) rfl rfl hz1 hS
/-! M_pack -/
noncomputable def fn_M_pack (a1 : Int32) (a2 : Int32) (hp : px_H) : Option (Int32 × px_H) :=
  sb (wF hp 69 0 (.int (Int32.ofInt 0))) fun h1 =>
  (fn_M_isBag a1 h1).bind fun q3 =>
  bif px_cmp .eq q3 0 then
    some ((Int32.ofInt (-1)), h1)
  else
    (fn_M_isSet a2 h1).bind fun q7 =>
    bif px_cmp .ne q7 0 then
      bif px_inR a1 2 then
      bif px_inR a1 2 then
      sb (uI h1 76 a1.toNatClampNeg a2) fun h13 =>
      bif px_inR a1 2 then
      sb (uI h13 88 a1.toNatClampNeg a2) fun h16 =>
      bif px_inR a1 2 then
      sb (uI h16 89 a1.toNatClampNeg (Int32.ofInt 0)) fun h19 =>
      some ((aI h1 76 a1.toNatClampNeg), h19)
      else none
      else none
      else none
      else none
    else
      some ((Int32.ofInt (-1)), h1)
theorem fx_M_pack {a1 : Int32} {a2 : Int32} {hp : px_H} {res : Int32 × px_H} (hS : oS hp) (h : fn_M_pack a1 a2 hp = some res) : px_C nm_T nm_P mi_M_pack [.ref 69, .int a1, .int a2] hp (some (.int res.1)) res.2 ∧ oS res.2 := by
  unfold fn_M_pack at h
  refine py_C (M := mm_M_pack) rfl (Nat.le_of_ble_eq_true rfl) ?_
  show px_Y mm_M_pack 0 [(0, .ref 69), (1, .int a1), (2, .int a2)] [] hp _ _
  refine py_its (pc := 0) (pc1 := 2) (lv1 := [(0, .ref 69), (1, .int a1), (2, .int a2)]) (st1 := [.int (Int32.ofInt 0), .ref 69]) 2 (fun _ _ _ _ => rfl) ?_
  have h := sb_e h
  refine py_pI (pc := 2) (len := 3) (cs := [69]) rfl rfl rfl List.mem_cons_self hS rfl rfl rfl rfl ?_
  have hS2 : oS (wF hp 69 0 (.int (Int32.ofInt 0))) := oS_wI (cs := [69]) (ci := 9) rfl List.mem_cons_self hS
  generalize (wF hp 69 0 (.int (Int32.ofInt 0))) = h1 at h hS2 ⊢
  refine py_its (pc := 5) (pc1 := 6) (lv1 := [(0, .ref 69), (1, .int a1), (2, .int a2)]) (st1 := [.int a1]) 1 (fun _ _ _ _ => rfl) ?_
  obtain ⟨q3, hq4, h⟩ := bd_e h
  have hC5 := (fx_M_isBag hS2 hq4).1
  refine py_st (pc := 6) (mi := mi_M_isBag) (N := mm_M_isBag) rfl rfl rfl (Nat.le_of_ble_eq_true rfl) (Nat.le_of_ble_eq_true rfl) rfl rfl hC5 ?_
  show px_Y mm_M_pack 9 [(0, .ref 69), (1, .int a1), (2, .int a2)] [.int q3] h1 _ _
  cases hb6 : px_cmp .eq q3 0 with
  | true =>
    have h := cd_t hb6 h
    refine py_if (pc := 9) (len := 3) true rfl hb6 ?_
    refine py_its (pc := 20) (pc1 := 21) (lv1 := [(0, .ref 69), (1, .int a1), (2, .int a2)]) (st1 := [.int (Int32.ofInt (-1))]) 1 (fun _ _ _ _ => rfl) ?_
    have h := Option.some.inj h
    subst h
    exact py_ir (pc := 21) (len := 1) (ty := .int) rfl rfl rfl hS2
  | false =>
    have h := cd_f hb6 h
    refine py_if (pc := 9) (len := 3) false rfl hb6 ?_
    refine py_its (pc := 12) (pc1 := 14) (lv1 := [(0, .ref 69), (1, .int a1), (2, .int a2)]) (st1 := [.int a2, .ref 69]) 2 (fun _ _ _ _ => rfl) ?_
    obtain ⟨q7, hq8, h⟩ := bd_e h
    have hC9 := (fx_M_isSet hS2 hq8).1
    refine py_vi (pc := 14) (mi := mi_M_isSet) (cs := [69]) (N := mm_M_isSet) rfl rfl rfl rfl List.mem_cons_self hS2 rfl (Nat.le_of_ble_eq_true rfl) (Nat.le_of_ble_eq_true rfl) rfl rfl hC9 ?_
    show px_Y mm_M_pack 17 [(0, .ref 69), (1, .int a1), (2, .int a2)] [.int q7] h1 _ _
    cases hb10 : px_cmp .ne q7 0 with
    | true =>
      have h := cd_t hb10 h
      refine py_if (pc := 17) (len := 3) true rfl hb10 ?_
      refine py_its (pc := 22) (pc1 := 23) (lv1 := [(0, .ref 69), (1, .int a1), (2, .int a2)]) (st1 := [.ref 69]) 1 (fun _ _ _ _ => rfl) ?_
      refine py_g1 76 (pc := 23) (len := 3) (cs := [69]) rfl rfl rfl List.mem_cons_self hS2 ?_
      refine py_its (pc := 26) (pc1 := 27) (lv1 := [(0, .ref 69), (1, .int a1), (2, .int a2)]) (st1 := [.int a1, .ref 76]) 1 (fun _ _ _ _ => rfl) ?_
      obtain ⟨hi11, h⟩ := cd_n h
      refine py_ai (pc := 27) (len := 1) (cs := [76]) (t := 33) (n := 2) rfl rfl rfl hi11 List.mem_cons_self hS2 ?_
      refine py_its (pc := 28) (pc1 := 30) (lv1 := [(3, .int (aI h1 76 a1.toNatClampNeg)), (0, .ref 69), (1, .int a1), (2, .int a2)]) (st1 := [.ref 69]) 2 (fun _ _ _ _ => rfl) ?_
      refine py_g1 76 (pc := 30) (len := 3) (cs := [69]) rfl rfl rfl List.mem_cons_self hS2 ?_
      refine py_its (pc := 33) (pc1 := 35) (lv1 := [(3, .int (aI h1 76 a1.toNatClampNeg)), (0, .ref 69), (1, .int a1), (2, .int a2)]) (st1 := [.int a2, .int a1, .ref 76]) 2 (fun _ _ _ _ => rfl) ?_
      obtain ⟨hi12, h⟩ := cd_n h
      have h := sb_e h
      refine py_si (pc := 35) (len := 1) (cs := [76]) (t := 33) (n := 2) rfl rfl rfl hi12 List.mem_cons_self hS2 ?_
      have hS14 : oS (uI h1 76 a1.toNatClampNeg a2) := oS_uI (cs := [76]) (t := 33) (n := 2) rfl List.mem_cons_self hS2
      generalize (uI h1 76 a1.toNatClampNeg a2) = h13 at h hS14 ⊢
      refine py_its (pc := 36) (pc1 := 37) (lv1 := [(3, .int (aI h1 76 a1.toNatClampNeg)), (0, .ref 69), (1, .int a1), (2, .int a2)]) (st1 := [.ref 69]) 1 (fun _ _ _ _ => rfl) ?_
      refine py_g1 88 (pc := 37) (len := 3) (cs := [69]) rfl rfl rfl List.mem_cons_self hS14 ?_
      refine py_its (pc := 40) (pc1 := 42) (lv1 := [(3, .int (aI h1 76 a1.toNatClampNeg)), (0, .ref 69), (1, .int a1), (2, .int a2)]) (st1 := [.int a2, .int a1, .ref 88]) 2 (fun _ _ _ _ => rfl) ?_
      obtain ⟨hi15, h⟩ := cd_n h
      have h := sb_e h
      refine py_si (pc := 42) (len := 1) (cs := [88]) (t := 45) (n := 2) rfl rfl rfl hi15 List.mem_cons_self hS14 ?_
      have hS17 : oS (uI h13 88 a1.toNatClampNeg a2) := oS_uI (cs := [88]) (t := 45) (n := 2) rfl List.mem_cons_self hS14
      generalize (uI h13 88 a1.toNatClampNeg a2) = h16 at h hS17 ⊢
      refine py_its (pc := 43) (pc1 := 44) (lv1 := [(3, .int (aI h1 76 a1.toNatClampNeg)), (0, .ref 69), (1, .int a1), (2, .int a2)]) (st1 := [.ref 69]) 1 (fun _ _ _ _ => rfl) ?_
      refine py_g1 89 (pc := 44) (len := 3) (cs := [69]) rfl rfl rfl List.mem_cons_self hS17 ?_
      refine py_its (pc := 47) (pc1 := 49) (lv1 := [(3, .int (aI h1 76 a1.toNatClampNeg)), (0, .ref 69), (1, .int a1), (2, .int a2)]) (st1 := [.int (Int32.ofInt 0), .int a1, .ref 89]) 2 (fun _ _ _ _ => rfl) ?_
      obtain ⟨hi18, h⟩ := cd_n h
      have h := sb_e h
      refine py_si (pc := 49) (len := 1) (cs := [89]) (t := 46) (n := 2) rfl rfl rfl hi18 List.mem_cons_self hS17 ?_
      have hS20 : oS (uI h16 89 a1.toNatClampNeg (Int32.ofInt 0)) := oS_uI (cs := [89]) (t := 46) (n := 2) rfl List.mem_cons_self hS17
      generalize (uI h16 89 a1.toNatClampNeg (Int32.ofInt 0)) = h19 at h hS20 ⊢
      refine py_its (pc := 50) (pc1 := 51) (lv1 := [(3, .int (aI h1 76 a1.toNatClampNeg)), (0, .ref 69), (1, .int a1), (2, .int a2)]) (st1 := [.int (aI h1 76 a1.toNatClampNeg)]) 1 (fun _ _ _ _ => rfl) ?_
      have h := Option.some.inj h
      subst h
      exact py_ir (pc := 51) (len := 1) (ty := .int) rfl rfl rfl hS20
    | false =>
      have h := cd_f hb10 h
      refine py_if (pc := 17) (len := 3) false rfl hb10 ?_
      refine py_its (pc := 20) (pc1 := 21) (lv1 := [(0, .ref 69), (1, .int a1), (2, .int a2)]) (st1 := [.int (Int32.ofInt (-1))]) 1 (fun _ _ _ _ => rfl) ?_
      have h := Option.some.inj h
      subst h
      exact py_ir (pc := 21) (len := 1) (ty := .int) rfl rfl rfl hS2
/-! M_renew -/
noncomputable def fn_M_renew (a1 : Int32) (a2 : Int32) (hp : px_H) : Option (Int32 × px_H) :=
  sb (wF hp 69 0 (.int (Int32.ofInt 0))) fun h1 =>
  (fn_M_isBag a1 h1).bind fun q3 =>
  bif px_cmp .ne q3 0 then
    bif px_inR a1 2 then
    bif (decide (a2 = 0) || decide (a2 = 1)) then
    sb (uI h1 77 a1.toNatClampNeg a2) fun h9 =>
    some ((Int32.ofInt 1), h9)
    else none
    else none
  else
    some ((Int32.ofInt 0), h1)
theorem fx_M_renew {a1 : Int32} {a2 : Int32} {hp : px_H} {res : Int32 × px_H} (hS : oS hp) (h : fn_M_renew a1 a2 hp = some res) : px_C nm_T nm_P mi_M_renew [.ref 69, .int a1, .int a2] hp (some (.int res.1)) res.2 ∧ oS res.2 := by
  unfold fn_M_renew at h
  refine py_C (M := mm_M_renew) rfl (Nat.le_of_ble_eq_true rfl) ?_
  show px_Y mm_M_renew 0 [(0, .ref 69), (1, .int a1), (2, .int a2)] [] hp _ _
  refine py_its (pc := 0) (pc1 := 2) (lv1 := [(0, .ref 69), (1, .int a1), (2, .int a2)]) (st1 := [.int (Int32.ofInt 0), .ref 69]) 2 (fun _ _ _ _ => rfl) ?_
  have h := sb_e h
  refine py_pI (pc := 2) (len := 3) (cs := [69]) rfl rfl rfl List.mem_cons_self hS rfl rfl rfl rfl ?_
  have hS2 : oS (wF hp 69 0 (.int (Int32.ofInt 0))) := oS_wI (cs := [69]) (ci := 9) rfl List.mem_cons_self hS
  generalize (wF hp 69 0 (.int (Int32.ofInt 0))) = h1 at h hS2 ⊢
  refine py_its (pc := 5) (pc1 := 6) (lv1 := [(0, .ref 69), (1, .int a1), (2, .int a2)]) (st1 := [.int a1]) 1 (fun _ _ _ _ => rfl) ?_
  obtain ⟨q3, hq4, h⟩ := bd_e h
  have hC5 := (fx_M_isBag hS2 hq4).1
  refine py_st (pc := 6) (mi := mi_M_isBag) (N := mm_M_isBag) rfl rfl rfl (Nat.le_of_ble_eq_true rfl) (Nat.le_of_ble_eq_true rfl) rfl rfl hC5 ?_
  show px_Y mm_M_renew 9 [(0, .ref 69), (1, .int a1), (2, .int a2)] [.int q3] h1 _ _
  cases hb6 : px_cmp .ne q3 0 with
  | true =>
    have h := cd_t hb6 h
    refine py_if (pc := 9) (len := 3) true rfl hb6 ?_
    refine py_its (pc := 14) (pc1 := 15) (lv1 := [(0, .ref 69), (1, .int a1), (2, .int a2)]) (st1 := [.ref 69]) 1 (fun _ _ _ _ => rfl) ?_
    refine py_g1 77 (pc := 15) (len := 3) (cs := [69]) rfl rfl rfl List.mem_cons_self hS2 ?_
    refine py_its (pc := 18) (pc1 := 20) (lv1 := [(0, .ref 69), (1, .int a1), (2, .int a2)]) (st1 := [.int a2, .int a1, .ref 77]) 2 (fun _ _ _ _ => rfl) ?_
    obtain ⟨hi7, h⟩ := cd_n h
    obtain ⟨hz8, h⟩ := cd_n h
    have h := sb_e h
    refine py_sb (pc := 20) (len := 1) (cs := [77]) (t := 34) (n := 2) rfl rfl rfl hi7 hz8 List.mem_cons_self hS2 ?_
    have hS10 : oS (uI h1 77 a1.toNatClampNeg a2) := oS_uI (cs := [77]) (t := 34) (n := 2) rfl List.mem_cons_self hS2
    generalize (uI h1 77 a1.toNatClampNeg a2) = h9 at h hS10 ⊢
    refine py_its (pc := 21) (pc1 := 22) (lv1 := [(0, .ref 69), (1, .int a1), (2, .int a2)]) (st1 := [.int (Int32.ofInt 1)]) 1 (fun _ _ _ _ => rfl) ?_
    have h := Option.some.inj h
    subst h
    exact py_ir (pc := 22) (len := 1) (ty := .boolean) rfl rfl (by decide) hS10
  | false =>
    have h := cd_f hb6 h
    refine py_if (pc := 9) (len := 3) false rfl hb6 ?_
    refine py_its (pc := 12) (pc1 := 13) (lv1 := [(0, .ref 69), (1, .int a1), (2, .int a2)]) (st1 := [.int (Int32.ofInt 0)]) 1 (fun _ _ _ _ => rfl) ?_
    have h := Option.some.inj h
    subst h
    exact py_ir (pc := 13) (len := 1) (ty := .boolean) rfl rfl (by decide) hS2
/-! M_drawing -/
noncomputable def fn_M_drawing (a1 : Int32) (a2 : Int32) (a3 : Int32) (hp : px_H) : Option (Int32 × px_H) :=
  sb (wF hp 69 0 (.int (Int32.ofInt 0))) fun h1 =>
  bif px_cmp .ne (gI h1 69 11) 0 then
    bif px_inR ((gI h1 69 11) - (Int32.ofInt 1)) 6 then
    bif px_cmp .eq (sx_in a1.toInt64 (aI h1 78 ((gI h1 69 11) - (Int32.ofInt 1)).toNatClampNeg).toInt64 (Int64.ofInt 999)) 0 then
      some ((Int32.ofInt (-1)), h1)
    else
      (fn_M_isBag a2 h1).bind fun q6 =>
      bif px_cmp .eq q6 0 then
        some ((Int32.ofInt (-1)), h1)
      else
        bif px_cmp .eq (sx_in a3.toInt64 (Int64.ofNat 1) (Int64.ofInt 3)) 0 then
          some ((Int32.ofInt (-1)), h1)
        else
          bif px_cmp .ne (gI h1 69 11) (Int8.ofInt 6).toInt32 then
            bif px_inR (gI h1 69 11) 6 then
            sb (uI h1 78 (gI h1 69 11).toNatClampNeg a1) fun h13 =>
            bif px_inR (gI h13 69 11) 6 then
            sb (uI h13 79 (gI h13 69 11).toNatClampNeg a2) fun h16 =>
            bif px_inR (gI h16 69 11) 6 then
            sb (uI h16 80 (gI h16 69 11).toNatClampNeg a3) fun h19 =>
            sb (wF h19 69 11 (.int ((gI h19 69 11) + (Int32.ofInt 1)))) fun h21 =>
            some (((gI h21 69 11) - (Int32.ofInt 1)), h21)
            else none
            else none
            else none
          else
            some ((Int32.ofInt (-1)), h1)
    else none
  else
    bif px_cmp .eq (sx_in a1.toInt64 (Int64.ofNat 0) (Int64.ofInt 999)) 0 then
      some ((Int32.ofInt (-1)), h1)
    else
      (fn_M_isBag a2 h1).bind fun q24 =>
      bif px_cmp .eq q24 0 then
        some ((Int32.ofInt (-1)), h1)
      else
        bif px_cmp .eq (sx_in a3.toInt64 (Int64.ofNat 1) (Int64.ofInt 3)) 0 then
          some ((Int32.ofInt (-1)), h1)
        else
          bif px_cmp .ne (gI h1 69 11) (Int8.ofInt 6).toInt32 then
            bif px_inR (gI h1 69 11) 6 then
            sb (uI h1 78 (gI h1 69 11).toNatClampNeg a1) fun h31 =>
            bif px_inR (gI h31 69 11) 6 then
            sb (uI h31 79 (gI h31 69 11).toNatClampNeg a2) fun h34 =>
            bif px_inR (gI h34 69 11) 6 then
            sb (uI h34 80 (gI h34 69 11).toNatClampNeg a3) fun h37 =>
            sb (wF h37 69 11 (.int ((gI h37 69 11) + (Int32.ofInt 1)))) fun h39 =>
            some (((gI h39 69 11) - (Int32.ofInt 1)), h39)
            else none
            else none
            else none
          else
            some ((Int32.ofInt (-1)), h1)
theorem fx_M_drawing {a1 : Int32} {a2 : Int32} {a3 : Int32} {hp : px_H} {res : Int32 × px_H} (hS : oS hp) (h : fn_M_drawing a1 a2 a3 hp = some res) : px_C nm_T nm_P mi_M_drawing [.ref 69, .int a1, .int a2, .int a3] hp (some (.int res.1)) res.2 ∧ oS res.2 := by
  unfold fn_M_drawing at h
  refine py_C (M := mm_M_drawing) rfl (Nat.le_of_ble_eq_true rfl) ?_
  show px_Y mm_M_drawing 0 [(0, .ref 69), (1, .int a1), (2, .int a2), (3, .int a3)] [] hp _ _
  refine py_its (pc := 0) (pc1 := 2) (lv1 := [(0, .ref 69), (1, .int a1), (2, .int a2), (3, .int a3)]) (st1 := [.int (Int32.ofInt 0), .ref 69]) 2 (fun _ _ _ _ => rfl) ?_
  have h := sb_e h
  refine py_pI (pc := 2) (len := 3) (cs := [69]) rfl rfl rfl List.mem_cons_self hS rfl rfl rfl rfl ?_
  have hS2 : oS (wF hp 69 0 (.int (Int32.ofInt 0))) := oS_wI (cs := [69]) (ci := 9) rfl List.mem_cons_self hS
  generalize (wF hp 69 0 (.int (Int32.ofInt 0))) = h1 at h hS2 ⊢
  refine py_its (pc := 5) (pc1 := 8) (lv1 := [(0, .ref 69), (1, .int a1), (2, .int a2), (3, .int a3)]) (st1 := [.ref 69, .long a1.toInt64]) 3 (fun _ _ _ _ => rfl) ?_
  refine py_gI (pc := 8) (len := 3) (cs := [69]) rfl rfl rfl List.mem_cons_self hS2 ?_
  cases hb3 : px_cmp .ne (gI h1 69 11) 0 with
  | true =>
    have h := cd_t hb3 h
    refine py_if (pc := 11) (len := 3) true rfl hb3 ?_
    refine py_its (pc := 18) (pc1 := 19) (lv1 := [(0, .ref 69), (1, .int a1), (2, .int a2), (3, .int a3)]) (st1 := [.ref 69, .long a1.toInt64]) 1 (fun _ _ _ _ => rfl) ?_
    refine py_g1 78 (pc := 19) (len := 3) (cs := [69]) rfl rfl rfl List.mem_cons_self hS2 ?_
    refine py_its (pc := 22) (pc1 := 23) (lv1 := [(0, .ref 69), (1, .int a1), (2, .int a2), (3, .int a3)]) (st1 := [.ref 69, .ref 78, .long a1.toInt64]) 1 (fun _ _ _ _ => rfl) ?_
    refine py_gI (pc := 23) (len := 3) (cs := [69]) rfl rfl rfl List.mem_cons_self hS2 ?_
    refine py_its (pc := 26) (pc1 := 28) (lv1 := [(0, .ref 69), (1, .int a1), (2, .int a2), (3, .int a3)]) (st1 := [.int ((gI h1 69 11) - (Int32.ofInt 1)), .ref 78, .long a1.toInt64]) 2 (fun _ _ _ _ => rfl) ?_
    obtain ⟨hi4, h⟩ := cd_n h
    refine py_ai (pc := 28) (len := 1) (cs := [78]) (t := 35) (n := 6) rfl rfl rfl hi4 List.mem_cons_self hS2 ?_
    refine py_its (pc := 29) (pc1 := 33) (lv1 := [(0, .ref 69), (1, .int a1), (2, .int a2), (3, .int a3)]) (st1 := [.long (Int64.ofInt 999), .long (aI h1 78 ((gI h1 69 11) - (Int32.ofInt 1)).toNatClampNeg).toInt64, .long a1.toInt64]) 2 (fun _ _ _ _ => rfl) ?_
    refine py_st (pc := 33) (mi := mi_M_in) (N := mm_M_in) rfl rfl rfl (Nat.le_of_ble_eq_true rfl) (Nat.le_of_ble_eq_true rfl) rfl rfl (sx_in_C a1.toInt64 (aI h1 78 ((gI h1 69 11) - (Int32.ofInt 1)).toNatClampNeg).toInt64 (Int64.ofInt 999) h1) ?_
    show px_Y mm_M_drawing 36 [(0, .ref 69), (1, .int a1), (2, .int a2), (3, .int a3)] [.int (sx_in a1.toInt64 (aI h1 78 ((gI h1 69 11) - (Int32.ofInt 1)).toNatClampNeg).toInt64 (Int64.ofInt 999))] h1 _ _
    cases hb5 : px_cmp .eq (sx_in a1.toInt64 (aI h1 78 ((gI h1 69 11) - (Int32.ofInt 1)).toNatClampNeg).toInt64 (Int64.ofInt 999)) 0 with
    | true =>
      have h := cd_t hb5 h
      refine py_if (pc := 36) (len := 3) true rfl hb5 ?_
      refine py_its (pc := 62) (pc1 := 67) (lv1 := [(4, .int (Int32.ofInt 0)), (0, .ref 69), (1, .int a1), (2, .int a2), (3, .int a3)]) (st1 := [.int (Int32.ofInt 0)]) 3 (fun _ _ _ _ => rfl) ?_
      refine py_if (pc := 67) (len := 3) true rfl (by decide) ?_
      refine py_its (pc := 79) (pc1 := 80) (lv1 := [(4, .int (Int32.ofInt 0)), (0, .ref 69), (1, .int a1), (2, .int a2), (3, .int a3)]) (st1 := [.int (Int32.ofInt (-1))]) 1 (fun _ _ _ _ => rfl) ?_
      have h := Option.some.inj h
      subst h
      exact py_ir (pc := 80) (len := 1) (ty := .int) rfl rfl rfl hS2
    | false =>
      have h := cd_f hb5 h
      refine py_if (pc := 36) (len := 3) false rfl hb5 ?_
      refine py_its (pc := 39) (pc1 := 40) (lv1 := [(0, .ref 69), (1, .int a1), (2, .int a2), (3, .int a3)]) (st1 := [.int a2]) 1 (fun _ _ _ _ => rfl) ?_
      obtain ⟨q6, hq7, h⟩ := bd_e h
      have hC8 := (fx_M_isBag hS2 hq7).1
      refine py_st (pc := 40) (mi := mi_M_isBag) (N := mm_M_isBag) rfl rfl rfl (Nat.le_of_ble_eq_true rfl) (Nat.le_of_ble_eq_true rfl) rfl rfl hC8 ?_
      show px_Y mm_M_drawing 43 [(0, .ref 69), (1, .int a1), (2, .int a2), (3, .int a3)] [.int q6] h1 _ _
      cases hb9 : px_cmp .eq q6 0 with
      | true =>
        have h := cd_t hb9 h
        refine py_if (pc := 43) (len := 3) true rfl hb9 ?_
        refine py_its (pc := 62) (pc1 := 67) (lv1 := [(4, .int (Int32.ofInt 0)), (0, .ref 69), (1, .int a1), (2, .int a2), (3, .int a3)]) (st1 := [.int (Int32.ofInt 0)]) 3 (fun _ _ _ _ => rfl) ?_
        refine py_if (pc := 67) (len := 3) true rfl (by decide) ?_
        refine py_its (pc := 79) (pc1 := 80) (lv1 := [(4, .int (Int32.ofInt 0)), (0, .ref 69), (1, .int a1), (2, .int a2), (3, .int a3)]) (st1 := [.int (Int32.ofInt (-1))]) 1 (fun _ _ _ _ => rfl) ?_
        have h := Option.some.inj h
        subst h
        exact py_ir (pc := 80) (len := 1) (ty := .int) rfl rfl rfl hS2
      | false =>
        have h := cd_f hb9 h
        refine py_if (pc := 43) (len := 3) false rfl hb9 ?_
        refine py_its (pc := 46) (pc1 := 52) (lv1 := [(0, .ref 69), (1, .int a1), (2, .int a2), (3, .int a3)]) (st1 := [.long (Int64.ofInt 3), .long (Int64.ofNat 1), .long a3.toInt64]) 4 (fun _ _ _ _ => rfl) ?_
        refine py_st (pc := 52) (mi := mi_M_in) (N := mm_M_in) rfl rfl rfl (Nat.le_of_ble_eq_true rfl) (Nat.le_of_ble_eq_true rfl) rfl rfl (sx_in_C a3.toInt64 (Int64.ofNat 1) (Int64.ofInt 3) h1) ?_
        show px_Y mm_M_drawing 55 [(0, .ref 69), (1, .int a1), (2, .int a2), (3, .int a3)] [.int (sx_in a3.toInt64 (Int64.ofNat 1) (Int64.ofInt 3))] h1 _ _
        cases hb10 : px_cmp .eq (sx_in a3.toInt64 (Int64.ofNat 1) (Int64.ofInt 3)) 0 with
        | true =>
          have h := cd_t hb10 h
          refine py_if (pc := 55) (len := 3) true rfl hb10 ?_
          refine py_its (pc := 62) (pc1 := 67) (lv1 := [(4, .int (Int32.ofInt 0)), (0, .ref 69), (1, .int a1), (2, .int a2), (3, .int a3)]) (st1 := [.int (Int32.ofInt 0)]) 3 (fun _ _ _ _ => rfl) ?_
          refine py_if (pc := 67) (len := 3) true rfl (by decide) ?_
          refine py_its (pc := 79) (pc1 := 80) (lv1 := [(4, .int (Int32.ofInt 0)), (0, .ref 69), (1, .int a1), (2, .int a2), (3, .int a3)]) (st1 := [.int (Int32.ofInt (-1))]) 1 (fun _ _ _ _ => rfl) ?_
          have h := Option.some.inj h
          subst h
          exact py_ir (pc := 80) (len := 1) (ty := .int) rfl rfl rfl hS2
        | false =>
          have h := cd_f hb10 h
          refine py_if (pc := 55) (len := 3) false rfl hb10 ?_
          refine py_its (pc := 58) (pc1 := 67) (lv1 := [(4, .int (Int32.ofInt 1)), (0, .ref 69), (1, .int a1), (2, .int a2), (3, .int a3)]) (st1 := [.int (Int32.ofInt 1)]) 4 (fun _ _ _ _ => rfl) ?_
          refine py_if (pc := 67) (len := 3) false rfl (by decide) ?_
          refine py_its (pc := 70) (pc1 := 71) (lv1 := [(4, .int (Int32.ofInt 1)), (0, .ref 69), (1, .int a1), (2, .int a2), (3, .int a3)]) (st1 := [.ref 69]) 1 (fun _ _ _ _ => rfl) ?_
          refine py_gI (pc := 71) (len := 3) (cs := [69]) rfl rfl rfl List.mem_cons_self hS2 ?_
          refine py_its (pc := 74) (pc1 := 76) (lv1 := [(4, .int (Int32.ofInt 1)), (0, .ref 69), (1, .int a1), (2, .int a2), (3, .int a3)]) (st1 := [.int (Int8.ofInt 6).toInt32, .int (gI h1 69 11)]) 1 (fun _ _ _ _ => rfl) ?_
          cases hb11 : px_cmp .ne (gI h1 69 11) (Int8.ofInt 6).toInt32 with
          | true =>
            have h := cd_t hb11 h
            refine py_ic (pc := 76) (len := 3) true rfl hb11 ?_
            refine py_its (pc := 81) (pc1 := 82) (lv1 := [(4, .int (Int32.ofInt 1)), (0, .ref 69), (1, .int a1), (2, .int a2), (3, .int a3)]) (st1 := [.ref 69]) 1 (fun _ _ _ _ => rfl) ?_
            refine py_g1 78 (pc := 82) (len := 3) (cs := [69]) rfl rfl rfl List.mem_cons_self hS2 ?_
            refine py_its (pc := 85) (pc1 := 86) (lv1 := [(4, .int (Int32.ofInt 1)), (0, .ref 69), (1, .int a1), (2, .int a2), (3, .int a3)]) (st1 := [.ref 69, .ref 78]) 1 (fun _ _ _ _ => rfl) ?_
            refine py_gI (pc := 86) (len := 3) (cs := [69]) rfl rfl rfl List.mem_cons_self hS2 ?_
            refine py_its (pc := 89) (pc1 := 90) (lv1 := [(4, .int (Int32.ofInt 1)), (0, .ref 69), (1, .int a1), (2, .int a2), (3, .int a3)]) (st1 := [.int a1, .int (gI h1 69 11), .ref 78]) 1 (fun _ _ _ _ => rfl) ?_
            obtain ⟨hi12, h⟩ := cd_n h
            have h := sb_e h
            refine py_si (pc := 90) (len := 1) (cs := [78]) (t := 35) (n := 6) rfl rfl rfl hi12 List.mem_cons_self hS2 ?_
            have hS14 : oS (uI h1 78 (gI h1 69 11).toNatClampNeg a1) := oS_uI (cs := [78]) (t := 35) (n := 6) rfl List.mem_cons_self hS2
            generalize (uI h1 78 (gI h1 69 11).toNatClampNeg a1) = h13 at h hS14 ⊢
            refine py_its (pc := 91) (pc1 := 92) (lv1 := [(4, .int (Int32.ofInt 1)), (0, .ref 69), (1, .int a1), (2, .int a2), (3, .int a3)]) (st1 := [.ref 69]) 1 (fun _ _ _ _ => rfl) ?_
            refine py_g1 79 (pc := 92) (len := 3) (cs := [69]) rfl rfl rfl List.mem_cons_self hS14 ?_
            refine py_its (pc := 95) (pc1 := 96) (lv1 := [(4, .int (Int32.ofInt 1)), (0, .ref 69), (1, .int a1), (2, .int a2), (3, .int a3)]) (st1 := [.ref 69, .ref 79]) 1 (fun _ _ _ _ => rfl) ?_
            refine py_gI (pc := 96) (len := 3) (cs := [69]) rfl rfl rfl List.mem_cons_self hS14 ?_
            refine py_its (pc := 99) (pc1 := 100) (lv1 := [(4, .int (Int32.ofInt 1)), (0, .ref 69), (1, .int a1), (2, .int a2), (3, .int a3)]) (st1 := [.int a2, .int (gI h13 69 11), .ref 79]) 1 (fun _ _ _ _ => rfl) ?_
            obtain ⟨hi15, h⟩ := cd_n h
            have h := sb_e h
            refine py_si (pc := 100) (len := 1) (cs := [79]) (t := 36) (n := 6) rfl rfl rfl hi15 List.mem_cons_self hS14 ?_
            have hS17 : oS (uI h13 79 (gI h13 69 11).toNatClampNeg a2) := oS_uI (cs := [79]) (t := 36) (n := 6) rfl List.mem_cons_self hS14
            generalize (uI h13 79 (gI h13 69 11).toNatClampNeg a2) = h16 at h hS17 ⊢
            refine py_its (pc := 101) (pc1 := 102) (lv1 := [(4, .int (Int32.ofInt 1)), (0, .ref 69), (1, .int a1), (2, .int a2), (3, .int a3)]) (st1 := [.ref 69]) 1 (fun _ _ _ _ => rfl) ?_
            refine py_g1 80 (pc := 102) (len := 3) (cs := [69]) rfl rfl rfl List.mem_cons_self hS17 ?_
            refine py_its (pc := 105) (pc1 := 106) (lv1 := [(4, .int (Int32.ofInt 1)), (0, .ref 69), (1, .int a1), (2, .int a2), (3, .int a3)]) (st1 := [.ref 69, .ref 80]) 1 (fun _ _ _ _ => rfl) ?_
            refine py_gI (pc := 106) (len := 3) (cs := [69]) rfl rfl rfl List.mem_cons_self hS17 ?_
            refine py_its (pc := 109) (pc1 := 110) (lv1 := [(4, .int (Int32.ofInt 1)), (0, .ref 69), (1, .int a1), (2, .int a2), (3, .int a3)]) (st1 := [.int a3, .int (gI h16 69 11), .ref 80]) 1 (fun _ _ _ _ => rfl) ?_
            obtain ⟨hi18, h⟩ := cd_n h
            have h := sb_e h
            refine py_si (pc := 110) (len := 1) (cs := [80]) (t := 37) (n := 6) rfl rfl rfl hi18 List.mem_cons_self hS17 ?_
            have hS20 : oS (uI h16 80 (gI h16 69 11).toNatClampNeg a3) := oS_uI (cs := [80]) (t := 37) (n := 6) rfl List.mem_cons_self hS17
            generalize (uI h16 80 (gI h16 69 11).toNatClampNeg a3) = h19 at h hS20 ⊢
            refine py_its (pc := 111) (pc1 := 113) (lv1 := [(4, .int (Int32.ofInt 1)), (0, .ref 69), (1, .int a1), (2, .int a2), (3, .int a3)]) (st1 := [.ref 69, .ref 69]) 2 (fun _ _ _ _ => rfl) ?_
            refine py_gI (pc := 113) (len := 3) (cs := [69]) rfl rfl rfl List.mem_cons_self hS20 ?_
            refine py_its (pc := 116) (pc1 := 118) (lv1 := [(4, .int (Int32.ofInt 1)), (0, .ref 69), (1, .int a1), (2, .int a2), (3, .int a3)]) (st1 := [.int ((gI h19 69 11) + (Int32.ofInt 1)), .ref 69]) 2 (fun _ _ _ _ => rfl) ?_
            have h := sb_e h
            refine py_pI (pc := 118) (len := 3) (cs := [69]) rfl rfl rfl List.mem_cons_self hS20 rfl rfl rfl rfl ?_
            have hS22 : oS (wF h19 69 11 (.int ((gI h19 69 11) + (Int32.ofInt 1)))) := oS_wI (cs := [69]) (ci := 9) rfl List.mem_cons_self hS20
            generalize (wF h19 69 11 (.int ((gI h19 69 11) + (Int32.ofInt 1)))) = h21 at h hS22 ⊢
            refine py_its (pc := 121) (pc1 := 122) (lv1 := [(4, .int (Int32.ofInt 1)), (0, .ref 69), (1, .int a1), (2, .int a2), (3, .int a3)]) (st1 := [.ref 69]) 1 (fun _ _ _ _ => rfl) ?_
            refine py_gI (pc := 122) (len := 3) (cs := [69]) rfl rfl rfl List.mem_cons_self hS22 ?_
            refine py_its (pc := 125) (pc1 := 127) (lv1 := [(4, .int (Int32.ofInt 1)), (0, .ref 69), (1, .int a1), (2, .int a2), (3, .int a3)]) (st1 := [.int ((gI h21 69 11) - (Int32.ofInt 1))]) 2 (fun _ _ _ _ => rfl) ?_
            have h := Option.some.inj h
            subst h
            exact py_ir (pc := 127) (len := 1) (ty := .int) rfl rfl rfl hS22
          | false =>
            have h := cd_f hb11 h
            refine py_ic (pc := 76) (len := 3) false rfl hb11 ?_
            refine py_its (pc := 79) (pc1 := 80) (lv1 := [(4, .int (Int32.ofInt 1)), (0, .ref 69), (1, .int a1), (2, .int a2), (3, .int a3)]) (st1 := [.int (Int32.ofInt (-1))]) 1 (fun _ _ _ _ => rfl) ?_
            have h := Option.some.inj h
            subst h
            exact py_ir (pc := 80) (len := 1) (ty := .int) rfl rfl rfl hS2
  | false =>
    have h := cd_f hb3 h
    refine py_if (pc := 11) (len := 3) false rfl hb3 ?_
    refine py_its (pc := 14) (pc1 := 33) (lv1 := [(0, .ref 69), (1, .int a1), (2, .int a2), (3, .int a3)]) (st1 := [.long (Int64.ofInt 999), .long (Int64.ofNat 0), .long a1.toInt64]) 3 (fun _ _ _ _ => rfl) ?_
    refine py_st (pc := 33) (mi := mi_M_in) (N := mm_M_in) rfl rfl rfl (Nat.le_of_ble_eq_true rfl) (Nat.le_of_ble_eq_true rfl) rfl rfl (sx_in_C a1.toInt64 (Int64.ofNat 0) (Int64.ofInt 999) h1) ?_
    show px_Y mm_M_drawing 36 [(0, .ref 69), (1, .int a1), (2, .int a2), (3, .int a3)] [.int (sx_in a1.toInt64 (Int64.ofNat 0) (Int64.ofInt 999))] h1 _ _
    cases hb23 : px_cmp .eq (sx_in a1.toInt64 (Int64.ofNat 0) (Int64.ofInt 999)) 0 with
    | true =>
      have h := cd_t hb23 h
      refine py_if (pc := 36) (len := 3) true rfl hb23 ?_
      refine py_its (pc := 62) (pc1 := 67) (lv1 := [(4, .int (Int32.ofInt 0)), (0, .ref 69), (1, .int a1), (2, .int a2), (3, .int a3)]) (st1 := [.int (Int32.ofInt 0)]) 3 (fun _ _ _ _ => rfl) ?_
      refine py_if (pc := 67) (len := 3) true rfl (by decide) ?_
      refine py_its (pc := 79) (pc1 := 80) (lv1 := [(4, .int (Int32.ofInt 0)), (0, .ref 69), (1, .int a1), (2, .int a2), (3, .int a3)]) (st1 := [.int (Int32.ofInt (-1))]) 1 (fun _ _ _ _ => rfl) ?_
      have h := Option.some.inj h
      subst h
      exact py_ir (pc := 80) (len := 1) (ty := .int) rfl rfl rfl hS2
    | false =>
      have h := cd_f hb23 h
      refine py_if (pc := 36) (len := 3) false rfl hb23 ?_
      refine py_its (pc := 39) (pc1 := 40) (lv1 := [(0, .ref 69), (1, .int a1), (2, .int a2), (3, .int a3)]) (st1 := [.int a2]) 1 (fun _ _ _ _ => rfl) ?_
      obtain ⟨q24, hq25, h⟩ := bd_e h
      have hC26 := (fx_M_isBag hS2 hq25).1
      refine py_st (pc := 40) (mi := mi_M_isBag) (N := mm_M_isBag) rfl rfl rfl (Nat.le_of_ble_eq_true rfl) (Nat.le_of_ble_eq_true rfl) rfl rfl hC26 ?_
      show px_Y mm_M_drawing 43 [(0, .ref 69), (1, .int a1), (2, .int a2), (3, .int a3)] [.int q24] h1 _ _
      cases hb27 : px_cmp .eq q24 0 with
      | true =>
        have h := cd_t hb27 h
        refine py_if (pc := 43) (len := 3) true rfl hb27 ?_
        refine py_its (pc := 62) (pc1 := 67) (lv1 := [(4, .int (Int32.ofInt 0)), (0, .ref 69), (1, .int a1), (2, .int a2), (3, .int a3)]) (st1 := [.int (Int32.ofInt 0)]) 3 (fun _ _ _ _ => rfl) ?_
        refine py_if (pc := 67) (len := 3) true rfl (by decide) ?_
        refine py_its (pc := 79) (pc1 := 80) (lv1 := [(4, .int (Int32.ofInt 0)), (0, .ref 69), (1, .int a1), (2, .int a2), (3, .int a3)]) (st1 := [.int (Int32.ofInt (-1))]) 1 (fun _ _ _ _ => rfl) ?_
        have h := Option.some.inj h
        subst h
        exact py_ir (pc := 80) (len := 1) (ty := .int) rfl rfl rfl hS2
      | false =>
        have h := cd_f hb27 h
        refine py_if (pc := 43) (len := 3) false rfl hb27 ?_
        refine py_its (pc := 46) (pc1 := 52) (lv1 := [(0, .ref 69), (1, .int a1), (2, .int a2), (3, .int a3)]) (st1 := [.long (Int64.ofInt 3), .long (Int64.ofNat 1), .long a3.toInt64]) 4 (fun _ _ _ _ => rfl) ?_
        refine py_st (pc := 52) (mi := mi_M_in) (N := mm_M_in) rfl rfl rfl (Nat.le_of_ble_eq_true rfl) (Nat.le_of_ble_eq_true rfl) rfl rfl (sx_in_C a3.toInt64 (Int64.ofNat 1) (Int64.ofInt 3) h1) ?_
        show px_Y mm_M_drawing 55 [(0, .ref 69), (1, .int a1), (2, .int a2), (3, .int a3)] [.int (sx_in a3.toInt64 (Int64.ofNat 1) (Int64.ofInt 3))] h1 _ _
        cases hb28 : px_cmp .eq (sx_in a3.toInt64 (Int64.ofNat 1) (Int64.ofInt 3)) 0 with
        | true =>
          have h := cd_t hb28 h
          refine py_if (pc := 55) (len := 3) true rfl hb28 ?_
          refine py_its (pc := 62) (pc1 := 67) (lv1 := [(4, .int (Int32.ofInt 0)), (0, .ref 69), (1, .int a1), (2, .int a2), (3, .int a3)]) (st1 := [.int (Int32.ofInt 0)]) 3 (fun _ _ _ _ => rfl) ?_
          refine py_if (pc := 67) (len := 3) true rfl (by decide) ?_
          refine py_its (pc := 79) (pc1 := 80) (lv1 := [(4, .int (Int32.ofInt 0)), (0, .ref 69), (1, .int a1), (2, .int a2), (3, .int a3)]) (st1 := [.int (Int32.ofInt (-1))]) 1 (fun _ _ _ _ => rfl) ?_
          have h := Option.some.inj h
          subst h
          exact py_ir (pc := 80) (len := 1) (ty := .int) rfl rfl rfl hS2
        | false =>
          have h := cd_f hb28 h
          refine py_if (pc := 55) (len := 3) false rfl hb28 ?_
          refine py_its (pc := 58) (pc1 := 67) (lv1 := [(4, .int (Int32.ofInt 1)), (0, .ref 69), (1, .int a1), (2, .int a2), (3, .int a3)]) (st1 := [.int (Int32.ofInt 1)]) 4 (fun _ _ _ _ => rfl) ?_
          refine py_if (pc := 67) (len := 3) false rfl (by decide) ?_
          refine py_its (pc := 70) (pc1 := 71) (lv1 := [(4, .int (Int32.ofInt 1)), (0, .ref 69), (1, .int a1), (2, .int a2), (3, .int a3)]) (st1 := [.ref 69]) 1 (fun _ _ _ _ => rfl) ?_
          refine py_gI (pc := 71) (len := 3) (cs := [69]) rfl rfl rfl List.mem_cons_self hS2 ?_
          refine py_its (pc := 74) (pc1 := 76) (lv1 := [(4, .int (Int32.ofInt 1)), (0, .ref 69), (1, .int a1), (2, .int a2), (3, .int a3)]) (st1 := [.int (Int8.ofInt 6).toInt32, .int (gI h1 69 11)]) 1 (fun _ _ _ _ => rfl) ?_
          cases hb29 : px_cmp .ne (gI h1 69 11) (Int8.ofInt 6).toInt32 with
          | true =>
            have h := cd_t hb29 h
            refine py_ic (pc := 76) (len := 3) true rfl hb29 ?_
            refine py_its (pc := 81) (pc1 := 82) (lv1 := [(4, .int (Int32.ofInt 1)), (0, .ref 69), (1, .int a1), (2, .int a2), (3, .int a3)]) (st1 := [.ref 69]) 1 (fun _ _ _ _ => rfl) ?_
            refine py_g1 78 (pc := 82) (len := 3) (cs := [69]) rfl rfl rfl List.mem_cons_self hS2 ?_
            refine py_its (pc := 85) (pc1 := 86) (lv1 := [(4, .int (Int32.ofInt 1)), (0, .ref 69), (1, .int a1), (2, .int a2), (3, .int a3)]) (st1 := [.ref 69, .ref 78]) 1 (fun _ _ _ _ => rfl) ?_
            refine py_gI (pc := 86) (len := 3) (cs := [69]) rfl rfl rfl List.mem_cons_self hS2 ?_
            refine py_its (pc := 89) (pc1 := 90) (lv1 := [(4, .int (Int32.ofInt 1)), (0, .ref 69), (1, .int a1), (2, .int a2), (3, .int a3)]) (st1 := [.int a1, .int (gI h1 69 11), .ref 78]) 1 (fun _ _ _ _ => rfl) ?_
            obtain ⟨hi30, h⟩ := cd_n h
            have h := sb_e h
            refine py_si (pc := 90) (len := 1) (cs := [78]) (t := 35) (n := 6) rfl rfl rfl hi30 List.mem_cons_self hS2 ?_
            have hS32 : oS (uI h1 78 (gI h1 69 11).toNatClampNeg a1) := oS_uI (cs := [78]) (t := 35) (n := 6) rfl List.mem_cons_self hS2
            generalize (uI h1 78 (gI h1 69 11).toNatClampNeg a1) = h31 at h hS32 ⊢
            refine py_its (pc := 91) (pc1 := 92) (lv1 := [(4, .int (Int32.ofInt 1)), (0, .ref 69), (1, .int a1), (2, .int a2), (3, .int a3)]) (st1 := [.ref 69]) 1 (fun _ _ _ _ => rfl) ?_
            refine py_g1 79 (pc := 92) (len := 3) (cs := [69]) rfl rfl rfl List.mem_cons_self hS32 ?_
            refine py_its (pc := 95) (pc1 := 96) (lv1 := [(4, .int (Int32.ofInt 1)), (0, .ref 69), (1, .int a1), (2, .int a2), (3, .int a3)]) (st1 := [.ref 69, .ref 79]) 1 (fun _ _ _ _ => rfl) ?_
            refine py_gI (pc := 96) (len := 3) (cs := [69]) rfl rfl rfl List.mem_cons_self hS32 ?_
            refine py_its (pc := 99) (pc1 := 100) (lv1 := [(4, .int (Int32.ofInt 1)), (0, .ref 69), (1, .int a1), (2, .int a2), (3, .int a3)]) (st1 := [.int a2, .int (gI h31 69 11), .ref 79]) 1 (fun _ _ _ _ => rfl) ?_
            obtain ⟨hi33, h⟩ := cd_n h
            have h := sb_e h
            refine py_si (pc := 100) (len := 1) (cs := [79]) (t := 36) (n := 6) rfl rfl rfl hi33 List.mem_cons_self hS32 ?_
            have hS35 : oS (uI h31 79 (gI h31 69 11).toNatClampNeg a2) := oS_uI (cs := [79]) (t := 36) (n := 6) rfl List.mem_cons_self hS32
            generalize (uI h31 79 (gI h31 69 11).toNatClampNeg a2) = h34 at h hS35 ⊢
            refine py_its (pc := 101) (pc1 := 102) (lv1 := [(4, .int (Int32.ofInt 1)), (0, .ref 69), (1, .int a1), (2, .int a2), (3, .int a3)]) (st1 := [.ref 69]) 1 (fun _ _ _ _ => rfl) ?_
            refine py_g1 80 (pc := 102) (len := 3) (cs := [69]) rfl rfl rfl List.mem_cons_self hS35 ?_
            refine py_its (pc := 105) (pc1 := 106) (lv1 := [(4, .int (Int32.ofInt 1)), (0, .ref 69), (1, .int a1), (2, .int a2), (3, .int a3)]) (st1 := [.ref 69, .ref 80]) 1 (fun _ _ _ _ => rfl) ?_
            refine py_gI (pc := 106) (len := 3) (cs := [69]) rfl rfl rfl List.mem_cons_self hS35 ?_
            refine py_its (pc := 109) (pc1 := 110) (lv1 := [(4, .int (Int32.ofInt 1)), (0, .ref 69), (1, .int a1), (2, .int a2), (3, .int a3)]) (st1 := [.int a3, .int (gI h34 69 11), .ref 80]) 1 (fun _ _ _ _ => rfl) ?_
            obtain ⟨hi36, h⟩ := cd_n h
            have h := sb_e h
            refine py_si (pc := 110) (len := 1) (cs := [80]) (t := 37) (n := 6) rfl rfl rfl hi36 List.mem_cons_self hS35 ?_
            have hS38 : oS (uI h34 80 (gI h34 69 11).toNatClampNeg a3) := oS_uI (cs := [80]) (t := 37) (n := 6) rfl List.mem_cons_self hS35
            generalize (uI h34 80 (gI h34 69 11).toNatClampNeg a3) = h37 at h hS38 ⊢
            refine py_its (pc := 111) (pc1 := 113) (lv1 := [(4, .int (Int32.ofInt 1)), (0, .ref 69), (1, .int a1), (2, .int a2), (3, .int a3)]) (st1 := [.ref 69, .ref 69]) 2 (fun _ _ _ _ => rfl) ?_
            refine py_gI (pc := 113) (len := 3) (cs := [69]) rfl rfl rfl List.mem_cons_self hS38 ?_
            refine py_its (pc := 116) (pc1 := 118) (lv1 := [(4, .int (Int32.ofInt 1)), (0, .ref 69), (1, .int a1), (2, .int a2), (3, .int a3)]) (st1 := [.int ((gI h37 69 11) + (Int32.ofInt 1)), .ref 69]) 2 (fun _ _ _ _ => rfl) ?_
            have h := sb_e h
            refine py_pI (pc := 118) (len := 3) (cs := [69]) rfl rfl rfl List.mem_cons_self hS38 rfl rfl rfl rfl ?_
            have hS40 : oS (wF h37 69 11 (.int ((gI h37 69 11) + (Int32.ofInt 1)))) := oS_wI (cs := [69]) (ci := 9) rfl List.mem_cons_self hS38
            generalize (wF h37 69 11 (.int ((gI h37 69 11) + (Int32.ofInt 1)))) = h39 at h hS40 ⊢
            refine py_its (pc := 121) (pc1 := 122) (lv1 := [(4, .int (Int32.ofInt 1)), (0, .ref 69), (1, .int a1), (2, .int a2), (3, .int a3)]) (st1 := [.ref 69]) 1 (fun _ _ _ _ => rfl) ?_
            refine py_gI (pc := 122) (len := 3) (cs := [69]) rfl rfl rfl List.mem_cons_self hS40 ?_
            refine py_its (pc := 125) (pc1 := 127) (lv1 := [(4, .int (Int32.ofInt 1)), (0, .ref 69), (1, .int a1), (2, .int a2), (3, .int a3)]) (st1 := [.int ((gI h39 69 11) - (Int32.ofInt 1))]) 2 (fun _ _ _ _ => rfl) ?_
            have h := Option.some.inj h
            subst h
            exact py_ir (pc := 127) (len := 1) (ty := .int) rfl rfl rfl hS40
          | false =>
            have h := cd_f hb29 h
            refine py_ic (pc := 76) (len := 3) false rfl hb29 ?_
            refine py_its (pc := 79) (pc1 := 80) (lv1 := [(4, .int (Int32.ofInt 1)), (0, .ref 69), (1, .int a1), (2, .int a2), (3, .int a3)]) (st1 := [.int (Int32.ofInt (-1))]) 1 (fun _ _ _ _ => rfl) ?_
            have h := Option.some.inj h
            subst h
            exact py_ir (pc := 80) (len := 1) (ty := .int) rfl rfl rfl hS2
/-! M_isDead -/
noncomputable def fn_M_isDead (a1 : Int32) (a2 : Int32) (hp : px_H) : Option (Int32) :=
  bif px_inR a2 6 then
  bif px_inR a1 10 then
  bif px_cmp .lt (aI hp 78 a2.toNatClampNeg) (aI hp 75 a1.toNatClampNeg) then
    some (Int32.ofInt 0)
  else
    some (Int32.ofInt 1)
  else none
  else none
theorem fx_M_isDead {a1 : Int32} {a2 : Int32} {hp : px_H} {res : Int32} (hS : oS hp) (h : fn_M_isDead a1 a2 hp = some res) : px_C nm_T nm_P mi_M_isDead [.ref 69, .int a1, .int a2] hp (some (.int res)) hp ∧ oS hp := by
  unfold fn_M_isDead at h
  refine py_C (M := mm_M_isDead) rfl (Nat.le_of_ble_eq_true rfl) ?_
  show px_Y mm_M_isDead 0 [(0, .ref 69), (1, .int a1), (2, .int a2)] [] hp _ _
  refine py_its (pc := 0) (pc1 := 1) (lv1 := [(0, .ref 69), (1, .int a1), (2, .int a2)]) (st1 := [.ref 69]) 1 (fun _ _ _ _ => rfl) ?_
  refine py_g1 78 (pc := 1) (len := 3) (cs := [69]) rfl rfl rfl List.mem_cons_self hS ?_
  refine py_its (pc := 4) (pc1 := 5) (lv1 := [(0, .ref 69), (1, .int a1), (2, .int a2)]) (st1 := [.int a2, .ref 78]) 1 (fun _ _ _ _ => rfl) ?_
  obtain ⟨hi1, h⟩ := cd_n h
  refine py_ai (pc := 5) (len := 1) (cs := [78]) (t := 35) (n := 6) rfl rfl rfl hi1 List.mem_cons_self hS ?_
  refine py_its (pc := 6) (pc1 := 7) (lv1 := [(0, .ref 69), (1, .int a1), (2, .int a2)]) (st1 := [.ref 69, .int (aI hp 78 a2.toNatClampNeg)]) 1 (fun _ _ _ _ => rfl) ?_
  refine py_g1 75 (pc := 7) (len := 3) (cs := [69]) rfl rfl rfl List.mem_cons_self hS ?_
  refine py_its (pc := 10) (pc1 := 11) (lv1 := [(0, .ref 69), (1, .int a1), (2, .int a2)]) (st1 := [.int a1, .ref 75, .int (aI hp 78 a2.toNatClampNeg)]) 1 (fun _ _ _ _ => rfl) ?_
  obtain ⟨hi2, h⟩ := cd_n h
  refine py_ai (pc := 11) (len := 1) (cs := [75]) (t := 32) (n := 10) rfl rfl rfl hi2 List.mem_cons_self hS ?_
  cases hb3 : px_cmp .lt (aI hp 78 a2.toNatClampNeg) (aI hp 75 a1.toNatClampNeg) with
  | true =>
    have h := cd_t hb3 h
    refine py_ic (pc := 12) (len := 3) true rfl hb3 ?_
    refine py_its (pc := 19) (pc1 := 20) (lv1 := [(0, .ref 69), (1, .int a1), (2, .int a2)]) (st1 := [.int (Int32.ofInt 0)]) 1 (fun _ _ _ _ => rfl) ?_
    have h := Option.some.inj h
    subst h
    exact py_ir (pc := 20) (len := 1) (ty := .boolean) rfl rfl (by decide) hS
  | false =>
    have h := cd_f hb3 h
    refine py_ic (pc := 12) (len := 3) false rfl hb3 ?_
    refine py_its (pc := 15) (pc1 := 20) (lv1 := [(0, .ref 69), (1, .int a1), (2, .int a2)]) (st1 := [.int (Int32.ofInt 1)]) 2 (fun _ _ _ _ => rfl) ?_
    have h := Option.some.inj h
    subst h
    exact py_ir (pc := 20) (len := 1) (ty := .boolean) rfl rfl (by decide) hS
/-! M_doesBar -/
noncomputable def fb_M_doesBar_L15 (v2 : Int32) (hp : px_H) (rc : Int32 → Option (Int32)) (v5 : Int32) : Option (Int32) :=
  bif px_cmp .ge v5 (gI hp 69 3) then
    some (Int32.ofInt 0)
  else
    bif px_cmp .eq (sx_has (gI hp 69 33) v5) 0 then
      rc (v5 + Int32.ofInt 1)
    else
      bif px_inR v5 10 then
      bif px_inR v2 10 then
      bif px_cmp .ne (aI hp 71 v5.toNatClampNeg) (aI hp 71 v2.toNatClampNeg) then
        rc (v5 + Int32.ofInt 1)
      else
        some (Int32.ofInt 1)
      else none
      else none
noncomputable def fn_M_doesBar_L15 (v2 : Int32) (hp : px_H) : Nat → Int32 → Option (Int32)
  | 0 => fun _ => none
  | n + 1 => fb_M_doesBar_L15 v2 hp (fn_M_doesBar_L15 v2 hp n)
theorem fl_M_doesBar_L15 {v2 : Int32} {hp : px_H}  : ∀ (n : Nat) (v5 : Int32) (lv : List (Nat × Value)) (res : Int32), oS hp → lk lv [(0, .ref 69), (2, .int v2), (5, .int v5)] → fn_M_doesBar_L15 v2 hp n v5 = some res → px_Y mm_M_doesBar 15 lv [] hp (some (.int res)) hp := by
  intro n
  induction n with
  | zero =>
    intro v5 lv res hS hk h
    cases h
  | succ n ih =>
    intro v5 lv res hS hk h
    have h : fb_M_doesBar_L15 v2 hp (fn_M_doesBar_L15 v2 hp n) v5 = some res := h
    unfold fb_M_doesBar_L15 at h
    refine py_il (pc := 15) (len := 2) (j := 5) rfl hk rfl ?_
    refine py_aln (pc := 17) (len := 1) (j := 0) rfl hk rfl ?_
    refine py_gI (pc := 18) (len := 3) (cs := [69]) rfl rfl rfl List.mem_cons_self hS ?_
    cases hb15 : px_cmp .ge v5 (gI hp 69 3) with
    | true =>
      have h := cd_t hb15 h
      refine py_ic (pc := 21) (len := 3) true rfl hb15 ?_
      refine py_its (pc := 60) (pc1 := 61) (lv1 := lv) (st1 := [.int (Int32.ofInt 0)]) 1 (fun _ _ _ _ => rfl) ?_
      have h := Option.some.inj h
      subst h
      exact py_ir (pc := 61) (len := 1) (ty := .boolean) rfl rfl (by decide) hS
    | false =>
      have h := cd_f hb15 h
      refine py_ic (pc := 21) (len := 3) false rfl hb15 ?_
      refine py_aln (pc := 24) (len := 1) (j := 0) rfl hk rfl ?_
      refine py_gI (pc := 25) (len := 3) (cs := [69]) rfl rfl rfl List.mem_cons_self hS ?_
      refine py_il (pc := 28) (len := 2) (j := 5) rfl hk rfl ?_
      refine py_st (pc := 30) (mi := mi_M_has) (N := mm_M_has) rfl rfl rfl (Nat.le_of_ble_eq_true rfl) (Nat.le_of_ble_eq_true rfl) rfl rfl (sx_has_C (gI hp 69 33) v5 hp) ?_
      show px_Y mm_M_doesBar 33 lv [.int (sx_has (gI hp 69 33) v5)] hp _ _
      cases hb16 : px_cmp .eq (sx_has (gI hp 69 33) v5) 0 with
      | true =>
        have h := cd_t hb16 h
        refine py_if (pc := 33) (len := 3) true rfl hb16 ?_
        refine py_inc (pc := 54) (len := 3) (j := 5) (n := 1) rfl rfl hk rfl (fun lv17 hk18 => ?_)
        have hk18 : lk lv17 [(5, .int (v5 + Int32.ofInt 1)), (0, .ref 69), (2, .int v2)] := hk18
        refine py_its (pc := 57) (pc1 := 15) (lv1 := lv17) (st1 := []) 1 (fun _ _ _ _ => rfl) ?_
        exact ih (v5 + Int32.ofInt 1) lv17 _ hS ⟨lk_find hk18 rfl, lk_find hk18 rfl, lk_find hk18 rfl, trivial⟩ h
      | false =>
        have h := cd_f hb16 h
        refine py_if (pc := 33) (len := 3) false rfl hb16 ?_
        refine py_aln (pc := 36) (len := 1) (j := 0) rfl hk rfl ?_
        refine py_g1 71 (pc := 37) (len := 3) (cs := [69]) rfl rfl rfl List.mem_cons_self hS ?_
        refine py_il (pc := 40) (len := 2) (j := 5) rfl hk rfl ?_
        obtain ⟨hi19, h⟩ := cd_n h
        refine py_ai (pc := 42) (len := 1) (cs := [71]) (t := 28) (n := 10) rfl rfl rfl hi19 List.mem_cons_self hS ?_
        refine py_aln (pc := 43) (len := 1) (j := 0) rfl hk rfl ?_
        refine py_g1 71 (pc := 44) (len := 3) (cs := [69]) rfl rfl rfl List.mem_cons_self hS ?_
        refine py_iln (pc := 47) (len := 1) (j := 2) rfl hk rfl ?_
        obtain ⟨hi20, h⟩ := cd_n h
        refine py_ai (pc := 48) (len := 1) (cs := [71]) (t := 28) (n := 10) rfl rfl rfl hi20 List.mem_cons_self hS ?_
        cases hb21 : px_cmp .ne (aI hp 71 v5.toNatClampNeg) (aI hp 71 v2.toNatClampNeg) with
        | true =>
          have h := cd_t hb21 h
          refine py_ic (pc := 49) (len := 3) true rfl hb21 ?_
          refine py_inc (pc := 54) (len := 3) (j := 5) (n := 1) rfl rfl hk rfl (fun lv22 hk23 => ?_)
          have hk23 : lk lv22 [(5, .int (v5 + Int32.ofInt 1)), (0, .ref 69), (2, .int v2)] := hk23
          refine py_its (pc := 57) (pc1 := 15) (lv1 := lv22) (st1 := []) 1 (fun _ _ _ _ => rfl) ?_
          exact ih (v5 + Int32.ofInt 1) lv22 _ hS ⟨lk_find hk23 rfl, lk_find hk23 rfl, lk_find hk23 rfl, trivial⟩ h
        | false =>
          have h := cd_f hb21 h
          refine py_ic (pc := 49) (len := 3) false rfl hb21 ?_
          refine py_its (pc := 52) (pc1 := 53) (lv1 := lv) (st1 := [.int (Int32.ofInt 1)]) 1 (fun _ _ _ _ => rfl) ?_
          have h := Option.some.inj h
          subst h
          exact py_ir (pc := 53) (len := 1) (ty := .boolean) rfl rfl (by decide) hS
noncomputable def fn_M_doesBar (a1 : Int32) (a2 : Int32) (a3 : Int32) (hp : px_H) : Option (Int32) :=
  bif px_inR a3 6 then
  bif px_cmp .ne a1 0 then
    bif px_cmp .ne a1 (Int8.ofInt 7).toInt32 then
      bif px_cmp .ne a1 (Int8.ofInt 8).toInt32 then
        bif px_inR a2 10 then
        bif px_cmp .le (aI hp 90 a2.toNatClampNeg) 0 then
          some (Int32.ofInt 0)
        else
          bif px_inR a2 10 then
          bif px_cmp .lt ((aI hp 90 a2.toNatClampNeg) - (Int32.ofInt 1)) (a3 - a1) then
            some (Int32.ofInt 0)
          else
            some (Int32.ofInt 1)
          else none
        else none
      else
        bif px_cmp .ne (sx_has (gI hp 69 20) a2) 0 then
          some (Int32.ofInt 1)
        else
          bif px_inR a2 10 then
          bif px_inR a2 10 then
          bif px_cmp .eq (sx_in (aI hp 78 a3.toNatClampNeg).toInt64 (aI hp 73 a2.toNatClampNeg).toInt64 (aI hp 74 a2.toNatClampNeg).toInt64) 0 then
            some (Int32.ofInt 0)
          else
            some (Int32.ofInt 1)
          else none
          else none
    else
      bif px_inR a2 10 then
      bif px_cmp .ge (aI hp 78 a3.toNatClampNeg) (aI hp 72 a2.toNatClampNeg) then
        some (Int32.ofInt 0)
      else
        some (Int32.ofInt 1)
      else none
  else
    fn_M_doesBar_L15 a2 hp fu (Int32.ofInt 0)
  else none
theorem fx_M_doesBar {a1 : Int32} {a2 : Int32} {a3 : Int32} {hp : px_H} {res : Int32} (hS : oS hp) (h : fn_M_doesBar a1 a2 a3 hp = some res) : px_C nm_T nm_P mi_M_doesBar [.ref 69, .int a1, .int a2, .int a3] hp (some (.int res)) hp ∧ oS hp := by
  unfold fn_M_doesBar at h
  refine py_C (M := mm_M_doesBar) rfl (Nat.le_of_ble_eq_true rfl) ?_
  show px_Y mm_M_doesBar 0 [(0, .ref 69), (1, .int a1), (2, .int a2), (3, .int a3)] [] hp _ _
  refine py_its (pc := 0) (pc1 := 1) (lv1 := [(0, .ref 69), (1, .int a1), (2, .int a2), (3, .int a3)]) (st1 := [.ref 69]) 1 (fun _ _ _ _ => rfl) ?_
  refine py_g1 78 (pc := 1) (len := 3) (cs := [69]) rfl rfl rfl List.mem_cons_self hS ?_
  refine py_its (pc := 4) (pc1 := 5) (lv1 := [(0, .ref 69), (1, .int a1), (2, .int a2), (3, .int a3)]) (st1 := [.int a3, .ref 78]) 1 (fun _ _ _ _ => rfl) ?_
  obtain ⟨hi1, h⟩ := cd_n h
  refine py_ai (pc := 5) (len := 1) (cs := [78]) (t := 35) (n := 6) rfl rfl rfl hi1 List.mem_cons_self hS ?_
  refine py_its (pc := 6) (pc1 := 9) (lv1 := [(4, .int (aI hp 78 a3.toNatClampNeg)), (0, .ref 69), (1, .int a1), (2, .int a2), (3, .int a3)]) (st1 := [.int a1]) 2 (fun _ _ _ _ => rfl) ?_
  cases hb2 : px_cmp .ne a1 0 with
  | true =>
    have h := cd_t hb2 h
    refine py_if (pc := 9) (len := 3) true rfl hb2 ?_
    refine py_its (pc := 62) (pc1 := 65) (lv1 := [(4, .int (aI hp 78 a3.toNatClampNeg)), (0, .ref 69), (1, .int a1), (2, .int a2), (3, .int a3)]) (st1 := [.int (Int8.ofInt 7).toInt32, .int a1]) 2 (fun _ _ _ _ => rfl) ?_
    cases hb3 : px_cmp .ne a1 (Int8.ofInt 7).toInt32 with
    | true =>
      have h := cd_t hb3 h
      refine py_ic (pc := 65) (len := 3) true rfl hb3 ?_
      refine py_its (pc := 85) (pc1 := 88) (lv1 := [(4, .int (aI hp 78 a3.toNatClampNeg)), (0, .ref 69), (1, .int a1), (2, .int a2), (3, .int a3)]) (st1 := [.int (Int8.ofInt 8).toInt32, .int a1]) 2 (fun _ _ _ _ => rfl) ?_
      cases hb4 : px_cmp .ne a1 (Int8.ofInt 8).toInt32 with
      | true =>
        have h := cd_t hb4 h
        refine py_ic (pc := 88) (len := 3) true rfl hb4 ?_
        refine py_its (pc := 131) (pc1 := 132) (lv1 := [(4, .int (aI hp 78 a3.toNatClampNeg)), (0, .ref 69), (1, .int a1), (2, .int a2), (3, .int a3)]) (st1 := [.ref 69]) 1 (fun _ _ _ _ => rfl) ?_
        refine py_g1 90 (pc := 132) (len := 3) (cs := [69]) rfl rfl rfl List.mem_cons_self hS ?_
        refine py_its (pc := 135) (pc1 := 136) (lv1 := [(4, .int (aI hp 78 a3.toNatClampNeg)), (0, .ref 69), (1, .int a1), (2, .int a2), (3, .int a3)]) (st1 := [.int a2, .ref 90]) 1 (fun _ _ _ _ => rfl) ?_
        obtain ⟨hi5, h⟩ := cd_n h
        refine py_ai (pc := 136) (len := 1) (cs := [90]) (t := 47) (n := 10) rfl rfl rfl hi5 List.mem_cons_self hS ?_
        cases hb6 : px_cmp .le (aI hp 90 a2.toNatClampNeg) 0 with
        | true =>
          have h := cd_t hb6 h
          refine py_if (pc := 137) (len := 3) true rfl hb6 ?_
          refine py_its (pc := 158) (pc1 := 159) (lv1 := [(4, .int (aI hp 78 a3.toNatClampNeg)), (0, .ref 69), (1, .int a1), (2, .int a2), (3, .int a3)]) (st1 := [.int (Int32.ofInt 0)]) 1 (fun _ _ _ _ => rfl) ?_
          have h := Option.some.inj h
          subst h
          exact py_ir (pc := 159) (len := 1) (ty := .boolean) rfl rfl (by decide) hS
        | false =>
          have h := cd_f hb6 h
          refine py_if (pc := 137) (len := 3) false rfl hb6 ?_
          refine py_its (pc := 140) (pc1 := 141) (lv1 := [(4, .int (aI hp 78 a3.toNatClampNeg)), (0, .ref 69), (1, .int a1), (2, .int a2), (3, .int a3)]) (st1 := [.ref 69]) 1 (fun _ _ _ _ => rfl) ?_
          refine py_g1 90 (pc := 141) (len := 3) (cs := [69]) rfl rfl rfl List.mem_cons_self hS ?_
          refine py_its (pc := 144) (pc1 := 145) (lv1 := [(4, .int (aI hp 78 a3.toNatClampNeg)), (0, .ref 69), (1, .int a1), (2, .int a2), (3, .int a3)]) (st1 := [.int a2, .ref 90]) 1 (fun _ _ _ _ => rfl) ?_
          obtain ⟨hi7, h⟩ := cd_n h
          refine py_ai (pc := 145) (len := 1) (cs := [90]) (t := 47) (n := 10) rfl rfl rfl hi7 List.mem_cons_self hS ?_
          refine py_its (pc := 146) (pc1 := 151) (lv1 := [(4, .int (aI hp 78 a3.toNatClampNeg)), (0, .ref 69), (1, .int a1), (2, .int a2), (3, .int a3)]) (st1 := [.int (a3 - a1), .int ((aI hp 90 a2.toNatClampNeg) - (Int32.ofInt 1))]) 5 (fun _ _ _ _ => rfl) ?_
          cases hb8 : px_cmp .lt ((aI hp 90 a2.toNatClampNeg) - (Int32.ofInt 1)) (a3 - a1) with
          | true =>
            have h := cd_t hb8 h
            refine py_ic (pc := 151) (len := 3) true rfl hb8 ?_
            refine py_its (pc := 158) (pc1 := 159) (lv1 := [(4, .int (aI hp 78 a3.toNatClampNeg)), (0, .ref 69), (1, .int a1), (2, .int a2), (3, .int a3)]) (st1 := [.int (Int32.ofInt 0)]) 1 (fun _ _ _ _ => rfl) ?_
            have h := Option.some.inj h
            subst h
            exact py_ir (pc := 159) (len := 1) (ty := .boolean) rfl rfl (by decide) hS
          | false =>
            have h := cd_f hb8 h
            refine py_ic (pc := 151) (len := 3) false rfl hb8 ?_
            refine py_its (pc := 154) (pc1 := 159) (lv1 := [(4, .int (aI hp 78 a3.toNatClampNeg)), (0, .ref 69), (1, .int a1), (2, .int a2), (3, .int a3)]) (st1 := [.int (Int32.ofInt 1)]) 2 (fun _ _ _ _ => rfl) ?_
            have h := Option.some.inj h
            subst h
            exact py_ir (pc := 159) (len := 1) (ty := .boolean) rfl rfl (by decide) hS
      | false =>
        have h := cd_f hb4 h
        refine py_ic (pc := 88) (len := 3) false rfl hb4 ?_
        refine py_its (pc := 91) (pc1 := 92) (lv1 := [(4, .int (aI hp 78 a3.toNatClampNeg)), (0, .ref 69), (1, .int a1), (2, .int a2), (3, .int a3)]) (st1 := [.ref 69]) 1 (fun _ _ _ _ => rfl) ?_
        refine py_gI (pc := 92) (len := 3) (cs := [69]) rfl rfl rfl List.mem_cons_self hS ?_
        refine py_its (pc := 95) (pc1 := 96) (lv1 := [(4, .int (aI hp 78 a3.toNatClampNeg)), (0, .ref 69), (1, .int a1), (2, .int a2), (3, .int a3)]) (st1 := [.int a2, .int (gI hp 69 20)]) 1 (fun _ _ _ _ => rfl) ?_
        refine py_st (pc := 96) (mi := mi_M_has) (N := mm_M_has) rfl rfl rfl (Nat.le_of_ble_eq_true rfl) (Nat.le_of_ble_eq_true rfl) rfl rfl (sx_has_C (gI hp 69 20) a2 hp) ?_
        show px_Y mm_M_doesBar 99 [(4, .int (aI hp 78 a3.toNatClampNeg)), (0, .ref 69), (1, .int a1), (2, .int a2), (3, .int a3)] [.int (sx_has (gI hp 69 20) a2)] hp _ _
        cases hb9 : px_cmp .ne (sx_has (gI hp 69 20) a2) 0 with
        | true =>
          have h := cd_t hb9 h
          refine py_if (pc := 99) (len := 3) true rfl hb9 ?_
          refine py_its (pc := 125) (pc1 := 130) (lv1 := [(4, .int (aI hp 78 a3.toNatClampNeg)), (0, .ref 69), (1, .int a1), (2, .int a2), (3, .int a3)]) (st1 := [.int (Int32.ofInt 1)]) 2 (fun _ _ _ _ => rfl) ?_
          have h := Option.some.inj h
          subst h
          exact py_ir (pc := 130) (len := 1) (ty := .boolean) rfl rfl (by decide) hS
        | false =>
          have h := cd_f hb9 h
          refine py_if (pc := 99) (len := 3) false rfl hb9 ?_
          refine py_its (pc := 102) (pc1 := 106) (lv1 := [(4, .int (aI hp 78 a3.toNatClampNeg)), (0, .ref 69), (1, .int a1), (2, .int a2), (3, .int a3)]) (st1 := [.ref 69, .long (aI hp 78 a3.toNatClampNeg).toInt64]) 3 (fun _ _ _ _ => rfl) ?_
          refine py_g1 73 (pc := 106) (len := 3) (cs := [69]) rfl rfl rfl List.mem_cons_self hS ?_
          refine py_its (pc := 109) (pc1 := 110) (lv1 := [(4, .int (aI hp 78 a3.toNatClampNeg)), (0, .ref 69), (1, .int a1), (2, .int a2), (3, .int a3)]) (st1 := [.int a2, .ref 73, .long (aI hp 78 a3.toNatClampNeg).toInt64]) 1 (fun _ _ _ _ => rfl) ?_
          obtain ⟨hi10, h⟩ := cd_n h
          refine py_ai (pc := 110) (len := 1) (cs := [73]) (t := 30) (n := 10) rfl rfl rfl hi10 List.mem_cons_self hS ?_
          refine py_its (pc := 111) (pc1 := 113) (lv1 := [(4, .int (aI hp 78 a3.toNatClampNeg)), (0, .ref 69), (1, .int a1), (2, .int a2), (3, .int a3)]) (st1 := [.ref 69, .long (aI hp 73 a2.toNatClampNeg).toInt64, .long (aI hp 78 a3.toNatClampNeg).toInt64]) 2 (fun _ _ _ _ => rfl) ?_
          refine py_g1 74 (pc := 113) (len := 3) (cs := [69]) rfl rfl rfl List.mem_cons_self hS ?_
          refine py_its (pc := 116) (pc1 := 117) (lv1 := [(4, .int (aI hp 78 a3.toNatClampNeg)), (0, .ref 69), (1, .int a1), (2, .int a2), (3, .int a3)]) (st1 := [.int a2, .ref 74, .long (aI hp 73 a2.toNatClampNeg).toInt64, .long (aI hp 78 a3.toNatClampNeg).toInt64]) 1 (fun _ _ _ _ => rfl) ?_
          obtain ⟨hi11, h⟩ := cd_n h
          refine py_ai (pc := 117) (len := 1) (cs := [74]) (t := 31) (n := 10) rfl rfl rfl hi11 List.mem_cons_self hS ?_
          refine py_its (pc := 118) (pc1 := 119) (lv1 := [(4, .int (aI hp 78 a3.toNatClampNeg)), (0, .ref 69), (1, .int a1), (2, .int a2), (3, .int a3)]) (st1 := [.long (aI hp 74 a2.toNatClampNeg).toInt64, .long (aI hp 73 a2.toNatClampNeg).toInt64, .long (aI hp 78 a3.toNatClampNeg).toInt64]) 1 (fun _ _ _ _ => rfl) ?_
          refine py_st (pc := 119) (mi := mi_M_in) (N := mm_M_in) rfl rfl rfl (Nat.le_of_ble_eq_true rfl) (Nat.le_of_ble_eq_true rfl) rfl rfl (sx_in_C (aI hp 78 a3.toNatClampNeg).toInt64 (aI hp 73 a2.toNatClampNeg).toInt64 (aI hp 74 a2.toNatClampNeg).toInt64 hp) ?_
          show px_Y mm_M_doesBar 122 [(4, .int (aI hp 78 a3.toNatClampNeg)), (0, .ref 69), (1, .int a1), (2, .int a2), (3, .int a3)] [.int (sx_in (aI hp 78 a3.toNatClampNeg).toInt64 (aI hp 73 a2.toNatClampNeg).toInt64 (aI hp 74 a2.toNatClampNeg).toInt64)] hp _ _
          cases hb12 : px_cmp .eq (sx_in (aI hp 78 a3.toNatClampNeg).toInt64 (aI hp 73 a2.toNatClampNeg).toInt64 (aI hp 74 a2.toNatClampNeg).toInt64) 0 with
          | true =>
            have h := cd_t hb12 h
            refine py_if (pc := 122) (len := 3) true rfl hb12 ?_
            refine py_its (pc := 129) (pc1 := 130) (lv1 := [(4, .int (aI hp 78 a3.toNatClampNeg)), (0, .ref 69), (1, .int a1), (2, .int a2), (3, .int a3)]) (st1 := [.int (Int32.ofInt 0)]) 1 (fun _ _ _ _ => rfl) ?_
            have h := Option.some.inj h
            subst h
            exact py_ir (pc := 130) (len := 1) (ty := .boolean) rfl rfl (by decide) hS
          | false =>
            have h := cd_f hb12 h
            refine py_if (pc := 122) (len := 3) false rfl hb12 ?_
            refine py_its (pc := 125) (pc1 := 130) (lv1 := [(4, .int (aI hp 78 a3.toNatClampNeg)), (0, .ref 69), (1, .int a1), (2, .int a2), (3, .int a3)]) (st1 := [.int (Int32.ofInt 1)]) 2 (fun _ _ _ _ => rfl) ?_
            have h := Option.some.inj h
            subst h
            exact py_ir (pc := 130) (len := 1) (ty := .boolean) rfl rfl (by decide) hS
    | false =>
      have h := cd_f hb3 h
      refine py_ic (pc := 65) (len := 3) false rfl hb3 ?_
      refine py_its (pc := 68) (pc1 := 71) (lv1 := [(4, .int (aI hp 78 a3.toNatClampNeg)), (0, .ref 69), (1, .int a1), (2, .int a2), (3, .int a3)]) (st1 := [.ref 69, .int (aI hp 78 a3.toNatClampNeg)]) 2 (fun _ _ _ _ => rfl) ?_
      refine py_g1 72 (pc := 71) (len := 3) (cs := [69]) rfl rfl rfl List.mem_cons_self hS ?_
      refine py_its (pc := 74) (pc1 := 75) (lv1 := [(4, .int (aI hp 78 a3.toNatClampNeg)), (0, .ref 69), (1, .int a1), (2, .int a2), (3, .int a3)]) (st1 := [.int a2, .ref 72, .int (aI hp 78 a3.toNatClampNeg)]) 1 (fun _ _ _ _ => rfl) ?_
      obtain ⟨hi13, h⟩ := cd_n h
      refine py_ai (pc := 75) (len := 1) (cs := [72]) (t := 29) (n := 10) rfl rfl rfl hi13 List.mem_cons_self hS ?_
      cases hb14 : px_cmp .ge (aI hp 78 a3.toNatClampNeg) (aI hp 72 a2.toNatClampNeg) with
      | true =>
        have h := cd_t hb14 h
        refine py_ic (pc := 76) (len := 3) true rfl hb14 ?_
        refine py_its (pc := 83) (pc1 := 84) (lv1 := [(4, .int (aI hp 78 a3.toNatClampNeg)), (0, .ref 69), (1, .int a1), (2, .int a2), (3, .int a3)]) (st1 := [.int (Int32.ofInt 0)]) 1 (fun _ _ _ _ => rfl) ?_
        have h := Option.some.inj h
        subst h
        exact py_ir (pc := 84) (len := 1) (ty := .boolean) rfl rfl (by decide) hS
      | false =>
        have h := cd_f hb14 h
        refine py_ic (pc := 76) (len := 3) false rfl hb14 ?_
        refine py_its (pc := 79) (pc1 := 84) (lv1 := [(4, .int (aI hp 78 a3.toNatClampNeg)), (0, .ref 69), (1, .int a1), (2, .int a2), (3, .int a3)]) (st1 := [.int (Int32.ofInt 1)]) 2 (fun _ _ _ _ => rfl) ?_
        have h := Option.some.inj h
        subst h
        exact py_ir (pc := 84) (len := 1) (ty := .boolean) rfl rfl (by decide) hS
  | false =>
    have h := cd_f hb2 h
    refine py_if (pc := 9) (len := 3) false rfl hb2 ?_
    refine py_its (pc := 12) (pc1 := 15) (lv1 := [(5, .int (Int32.ofInt 0)), (4, .int (aI hp 78 a3.toNatClampNeg)), (0, .ref 69), (1, .int a1), (2, .int a2), (3, .int a3)]) (st1 := []) 2 (fun _ _ _ _ => rfl) ?_
    exact fl_M_doesBar_L15 fu (Int32.ofInt 0) [(5, .int (Int32.ofInt 0)), (4, .int (aI hp 78 a3.toNatClampNeg)), (0, .ref 69), (1, .int a1), (2, .int a2), (3, .int a3)] _ hS ⟨rfl, rfl, rfl, trivial⟩ h
/-! M_barredBy -/
noncomputable def fb_M_barredBy_L2 (v1 : Int32) (v2 : Int32) (hp : px_H) (rc : Int32 → Option (Int32)) (v3 : Int32) : Option (Int32) :=
  bif px_inR (gI hp 69 15) 4 then
  bif px_cmp .ge v3 (aI hp 81 (gI hp 69 15).toNatClampNeg) then
    some (Int32.ofInt (-1))
  else
    bif px_inR (((Int8.ofInt 7).toInt32 * (gI hp 69 15)) + v3) 28 then
    (fn_M_doesBar (aI hp 83 (((Int8.ofInt 7).toInt32 * (gI hp 69 15)) + v3).toNatClampNeg) v1 v2 hp).bind fun q4 =>
    bif px_cmp .eq q4 0 then
      rc (v3 + Int32.ofInt 1)
    else
      some v3
    else none
  else none
noncomputable def fn_M_barredBy_L2 (v1 : Int32) (v2 : Int32) (hp : px_H) : Nat → Int32 → Option (Int32)
  | 0 => fun _ => none
  | n + 1 => fb_M_barredBy_L2 v1 v2 hp (fn_M_barredBy_L2 v1 v2 hp n)
theorem fl_M_barredBy_L2 {v1 : Int32} {v2 : Int32} {hp : px_H}  : ∀ (n : Nat) (v3 : Int32) (lv : List (Nat × Value)) (res : Int32), oS hp → lk lv [(0, .ref 69), (1, .int v1), (2, .int v2), (3, .int v3)] → fn_M_barredBy_L2 v1 v2 hp n v3 = some res → px_Y mm_M_barredBy 2 lv [] hp (some (.int res)) hp := by
  intro n
  induction n with
  | zero =>
    intro v3 lv res hS hk h
    cases h
  | succ n ih =>
    intro v3 lv res hS hk h
    have h : fb_M_barredBy_L2 v1 v2 hp (fn_M_barredBy_L2 v1 v2 hp n) v3 = some res := h
    unfold fb_M_barredBy_L2 at h
    refine py_iln (pc := 2) (len := 1) (j := 3) rfl hk rfl ?_
    refine py_aln (pc := 3) (len := 1) (j := 0) rfl hk rfl ?_
    refine py_g1 81 (pc := 4) (len := 3) (cs := [69]) rfl rfl rfl List.mem_cons_self hS ?_
    refine py_aln (pc := 7) (len := 1) (j := 0) rfl hk rfl ?_
    refine py_gI (pc := 8) (len := 3) (cs := [69]) rfl rfl rfl List.mem_cons_self hS ?_
    obtain ⟨hi1, h⟩ := cd_n h
    refine py_ai (pc := 11) (len := 1) (cs := [81]) (t := 38) (n := 4) rfl rfl rfl hi1 List.mem_cons_self hS ?_
    cases hb2 : px_cmp .ge v3 (aI hp 81 (gI hp 69 15).toNatClampNeg) with
    | true =>
      have h := cd_t hb2 h
      refine py_ic (pc := 12) (len := 3) true rfl hb2 ?_
      refine py_its (pc := 46) (pc1 := 47) (lv1 := lv) (st1 := [.int (Int32.ofInt (-1))]) 1 (fun _ _ _ _ => rfl) ?_
      have h := Option.some.inj h
      subst h
      exact py_ir (pc := 47) (len := 1) (ty := .int) rfl rfl rfl hS
    | false =>
      have h := cd_f hb2 h
      refine py_ic (pc := 12) (len := 3) false rfl hb2 ?_
      refine py_aln (pc := 15) (len := 1) (j := 0) rfl hk rfl ?_
      refine py_aln (pc := 16) (len := 1) (j := 0) rfl hk rfl ?_
      refine py_g1 83 (pc := 17) (len := 3) (cs := [69]) rfl rfl rfl List.mem_cons_self hS ?_
      refine py_its (pc := 20) (pc1 := 22) (lv1 := lv) (st1 := [.int (Int8.ofInt 7).toInt32, .ref 83, .ref 69]) 1 (fun _ _ _ _ => rfl) ?_
      refine py_aln (pc := 22) (len := 1) (j := 0) rfl hk rfl ?_
      refine py_gI (pc := 23) (len := 3) (cs := [69]) rfl rfl rfl List.mem_cons_self hS ?_
      refine py_its (pc := 26) (pc1 := 27) (lv1 := lv) (st1 := [.int ((Int8.ofInt 7).toInt32 * (gI hp 69 15)), .ref 83, .ref 69]) 1 (fun _ _ _ _ => rfl) ?_
      refine py_iln (pc := 27) (len := 1) (j := 3) rfl hk rfl ?_
      refine py_its (pc := 28) (pc1 := 29) (lv1 := lv) (st1 := [.int (((Int8.ofInt 7).toInt32 * (gI hp 69 15)) + v3), .ref 83, .ref 69]) 1 (fun _ _ _ _ => rfl) ?_
      obtain ⟨hi3, h⟩ := cd_n h
      refine py_ai (pc := 29) (len := 1) (cs := [83]) (t := 40) (n := 28) rfl rfl rfl hi3 List.mem_cons_self hS ?_
      refine py_iln (pc := 30) (len := 1) (j := 1) rfl hk rfl ?_
      refine py_iln (pc := 31) (len := 1) (j := 2) rfl hk rfl ?_
      obtain ⟨q4, hq5, h⟩ := bd_e h
      have hC6 := (fx_M_doesBar hS hq5).1
      refine py_vi (pc := 32) (mi := mi_M_doesBar) (cs := [69]) (N := mm_M_doesBar) rfl rfl rfl rfl List.mem_cons_self hS rfl (Nat.le_of_ble_eq_true rfl) (Nat.le_of_ble_eq_true rfl) rfl rfl hC6 ?_
      show px_Y mm_M_barredBy 35 lv [.int q4] hp _ _
      cases hb7 : px_cmp .eq q4 0 with
      | true =>
        have h := cd_t hb7 h
        refine py_if (pc := 35) (len := 3) true rfl hb7 ?_
        refine py_inc (pc := 40) (len := 3) (j := 3) (n := 1) rfl rfl hk rfl (fun lv8 hk9 => ?_)
        have hk9 : lk lv8 [(3, .int (v3 + Int32.ofInt 1)), (0, .ref 69), (1, .int v1), (2, .int v2)] := hk9
        refine py_its (pc := 43) (pc1 := 2) (lv1 := lv8) (st1 := []) 1 (fun _ _ _ _ => rfl) ?_
        exact ih (v3 + Int32.ofInt 1) lv8 _ hS ⟨lk_find hk9 rfl, lk_find hk9 rfl, lk_find hk9 rfl, lk_find hk9 rfl, trivial⟩ h
      | false =>
        have h := cd_f hb7 h
        refine py_if (pc := 35) (len := 3) false rfl hb7 ?_
        refine py_iln (pc := 38) (len := 1) (j := 3) rfl hk rfl ?_
        have h := Option.some.inj h
        subst h
        exact py_ir (pc := 39) (len := 1) (ty := .int) rfl rfl rfl hS
noncomputable def fn_M_barredBy (a1 : Int32) (a2 : Int32) (hp : px_H) : Option (Int32) :=
  fn_M_barredBy_L2 a1 a2 hp fu (Int32.ofInt 0)
theorem fx_M_barredBy {a1 : Int32} {a2 : Int32} {hp : px_H} {res : Int32} (hS : oS hp) (h : fn_M_barredBy a1 a2 hp = some res) : px_C nm_T nm_P mi_M_barredBy [.ref 69, .int a1, .int a2] hp (some (.int res)) hp ∧ oS hp := by
  unfold fn_M_barredBy at h
  refine py_C (M := mm_M_barredBy) rfl (Nat.le_of_ble_eq_true rfl) ?_
  show px_Y mm_M_barredBy 0 [(0, .ref 69), (1, .int a1), (2, .int a2)] [] hp _ _
  refine py_its (pc := 0) (pc1 := 2) (lv1 := [(3, .int (Int32.ofInt 0)), (0, .ref 69), (1, .int a1), (2, .int a2)]) (st1 := []) 2 (fun _ _ _ _ => rfl) ?_
  exact fl_M_barredBy_L2 fu (Int32.ofInt 0) [(3, .int (Int32.ofInt 0)), (0, .ref 69), (1, .int a1), (2, .int a2)] _ hS ⟨rfl, rfl, rfl, rfl, trivial⟩ h
/-! M_bars -/
noncomputable def fn_M_bars (a1 : Int32) (hp : px_H) : Option (Int32 × px_H) :=
  sb (wF hp 69 0 (.int (Int32.ofInt 0))) fun h1 =>
  (fn_M_isPerson a1 h1).bind fun q3 =>
  bif px_cmp .eq q3 0 then
    some ((Int32.ofInt (-1)), h1)
  else
    bif px_cmp .lt (gI h1 69 31) (gI h1 69 11) then
      (fn_M_isDead a1 (gI h1 69 31) h1).bind fun q8 =>
      bif px_cmp .eq q8 0 then
        (fn_M_barredBy a1 (gI h1 69 31) h1).bind fun q12 =>
        bif px_cmp .ge q12 0 then
          some (q12, h1)
        else
          some ((Int8.ofInt (-2)).toInt32, h1)
      else
        some ((Int8.ofInt (-3)).toInt32, h1)
    else
      some ((Int32.ofInt (-1)), h1)
theorem fx_M_bars {a1 : Int32} {hp : px_H} {res : Int32 × px_H} (hS : oS hp) (h : fn_M_bars a1 hp = some res) : px_C nm_T nm_P mi_M_bars [.ref 69, .int a1] hp (some (.int res.1)) res.2 ∧ oS res.2 := by
  unfold fn_M_bars at h
  refine py_C (M := mm_M_bars) rfl (Nat.le_of_ble_eq_true rfl) ?_
  show px_Y mm_M_bars 0 [(0, .ref 69), (1, .int a1)] [] hp _ _
  refine py_its (pc := 0) (pc1 := 2) (lv1 := [(0, .ref 69), (1, .int a1)]) (st1 := [.int (Int32.ofInt 0), .ref 69]) 2 (fun _ _ _ _ => rfl) ?_
  have h := sb_e h
  refine py_pI (pc := 2) (len := 3) (cs := [69]) rfl rfl rfl List.mem_cons_self hS rfl rfl rfl rfl ?_
  have hS2 : oS (wF hp 69 0 (.int (Int32.ofInt 0))) := oS_wI (cs := [69]) (ci := 9) rfl List.mem_cons_self hS
  generalize (wF hp 69 0 (.int (Int32.ofInt 0))) = h1 at h hS2 ⊢
  refine py_its (pc := 5) (pc1 := 7) (lv1 := [(0, .ref 69), (1, .int a1)]) (st1 := [.int a1, .ref 69]) 2 (fun _ _ _ _ => rfl) ?_
  obtain ⟨q3, hq4, h⟩ := bd_e h
  have hC5 := (fx_M_isPerson hS2 hq4).1
  refine py_vi (pc := 7) (mi := mi_M_isPerson) (cs := [69]) (N := mm_M_isPerson) rfl rfl rfl rfl List.mem_cons_self hS2 rfl (Nat.le_of_ble_eq_true rfl) (Nat.le_of_ble_eq_true rfl) rfl rfl hC5 ?_
  show px_Y mm_M_bars 10 [(0, .ref 69), (1, .int a1)] [.int q3] h1 _ _
  cases hb6 : px_cmp .eq q3 0 with
  | true =>
    have h := cd_t hb6 h
    refine py_if (pc := 10) (len := 3) true rfl hb6 ?_
    refine py_its (pc := 24) (pc1 := 25) (lv1 := [(0, .ref 69), (1, .int a1)]) (st1 := [.int (Int32.ofInt (-1))]) 1 (fun _ _ _ _ => rfl) ?_
    have h := Option.some.inj h
    subst h
    exact py_ir (pc := 25) (len := 1) (ty := .int) rfl rfl rfl hS2
  | false =>
    have h := cd_f hb6 h
    refine py_if (pc := 10) (len := 3) false rfl hb6 ?_
    refine py_its (pc := 13) (pc1 := 14) (lv1 := [(0, .ref 69), (1, .int a1)]) (st1 := [.ref 69]) 1 (fun _ _ _ _ => rfl) ?_
    refine py_gI (pc := 14) (len := 3) (cs := [69]) rfl rfl rfl List.mem_cons_self hS2 ?_
    refine py_its (pc := 17) (pc1 := 18) (lv1 := [(0, .ref 69), (1, .int a1)]) (st1 := [.ref 69, .int (gI h1 69 31)]) 1 (fun _ _ _ _ => rfl) ?_
    refine py_gI (pc := 18) (len := 3) (cs := [69]) rfl rfl rfl List.mem_cons_self hS2 ?_
    cases hb7 : px_cmp .lt (gI h1 69 31) (gI h1 69 11) with
    | true =>
      have h := cd_t hb7 h
      refine py_ic (pc := 21) (len := 3) true rfl hb7 ?_
      refine py_its (pc := 26) (pc1 := 29) (lv1 := [(0, .ref 69), (1, .int a1)]) (st1 := [.ref 69, .int a1, .ref 69]) 3 (fun _ _ _ _ => rfl) ?_
      refine py_gI (pc := 29) (len := 3) (cs := [69]) rfl rfl rfl List.mem_cons_self hS2 ?_
      obtain ⟨q8, hq9, h⟩ := bd_e h
      have hC10 := (fx_M_isDead hS2 hq9).1
      refine py_vi (pc := 32) (mi := mi_M_isDead) (cs := [69]) (N := mm_M_isDead) rfl rfl rfl rfl List.mem_cons_self hS2 rfl (Nat.le_of_ble_eq_true rfl) (Nat.le_of_ble_eq_true rfl) rfl rfl hC10 ?_
      show px_Y mm_M_bars 35 [(0, .ref 69), (1, .int a1)] [.int q8] h1 _ _
      cases hb11 : px_cmp .eq q8 0 with
      | true =>
        have h := cd_t hb11 h
        refine py_if (pc := 35) (len := 3) true rfl hb11 ?_
        refine py_its (pc := 41) (pc1 := 44) (lv1 := [(0, .ref 69), (1, .int a1)]) (st1 := [.ref 69, .int a1, .ref 69]) 3 (fun _ _ _ _ => rfl) ?_
        refine py_gI (pc := 44) (len := 3) (cs := [69]) rfl rfl rfl List.mem_cons_self hS2 ?_
        obtain ⟨q12, hq13, h⟩ := bd_e h
        have hC14 := (fx_M_barredBy hS2 hq13).1
        refine py_vi (pc := 47) (mi := mi_M_barredBy) (cs := [69]) (N := mm_M_barredBy) rfl rfl rfl rfl List.mem_cons_self hS2 rfl (Nat.le_of_ble_eq_true rfl) (Nat.le_of_ble_eq_true rfl) rfl rfl hC14 ?_
        show px_Y mm_M_bars 50 [(0, .ref 69), (1, .int a1)] [.int q12] h1 _ _
        refine py_its (pc := 50) (pc1 := 52) (lv1 := [(2, .int q12), (0, .ref 69), (1, .int a1)]) (st1 := [.int q12]) 2 (fun _ _ _ _ => rfl) ?_
        cases hb15 : px_cmp .ge q12 0 with
        | true =>
          have h := cd_t hb15 h
          refine py_if (pc := 52) (len := 3) true rfl hb15 ?_
          refine py_its (pc := 60) (pc1 := 61) (lv1 := [(2, .int q12), (0, .ref 69), (1, .int a1)]) (st1 := [.int q12]) 1 (fun _ _ _ _ => rfl) ?_
          have h := Option.some.inj h
          subst h
          exact py_ir (pc := 61) (len := 1) (ty := .int) rfl rfl rfl hS2
        | false =>
          have h := cd_f hb15 h
          refine py_if (pc := 52) (len := 3) false rfl hb15 ?_
          refine py_its (pc := 55) (pc1 := 61) (lv1 := [(2, .int q12), (0, .ref 69), (1, .int a1)]) (st1 := [.int (Int8.ofInt (-2)).toInt32]) 2 (fun _ _ _ _ => rfl) ?_
          have h := Option.some.inj h
          subst h
          exact py_ir (pc := 61) (len := 1) (ty := .int) rfl rfl rfl hS2
      | false =>
        have h := cd_f hb11 h
        refine py_if (pc := 35) (len := 3) false rfl hb11 ?_
        refine py_its (pc := 38) (pc1 := 40) (lv1 := [(0, .ref 69), (1, .int a1)]) (st1 := [.int (Int8.ofInt (-3)).toInt32]) 1 (fun _ _ _ _ => rfl) ?_
        have h := Option.some.inj h
        subst h
        exact py_ir (pc := 40) (len := 1) (ty := .int) rfl rfl rfl hS2
    | false =>
      have h := cd_f hb7 h
      refine py_ic (pc := 21) (len := 3) false rfl hb7 ?_
      refine py_its (pc := 24) (pc1 := 25) (lv1 := [(0, .ref 69), (1, .int a1)]) (st1 := [.int (Int32.ofInt (-1))]) 1 (fun _ _ _ _ => rfl) ?_
      have h := Option.some.inj h
      subst h
      exact py_ir (pc := 25) (len := 1) (ty := .int) rfl rfl rfl hS2
/-! M_opens -/
noncomputable def fb_M_opens_L57 (v1 : Int32) (v2 : Int32) (rc : Int32 → px_H → Option (px_H)) (v3 : Int32) (hp : px_H) : Option (px_H) :=
  bif px_cmp .ge v3 (gI hp 69 3) then
    some hp
  else
    bif px_inR v2 2 then
    bif px_cmp .eq (sx_has (aI hp 89 v2.toNatClampNeg) v3) 0 then
      rc (v3 + Int32.ofInt 1) hp
    else
      (fn_M_barredBy v3 v1 hp).bind fun q22 =>
      bif px_cmp .ge q22 0 then
        rc (v3 + Int32.ofInt 1) hp
      else
        bif px_inR v2 2 then
        bif px_inR v2 2 then
        sb (uI hp 89 v2.toNatClampNeg ((aI hp 89 v2.toNatClampNeg) &&& (((Int32.ofInt 1) <<< (v3 &&& 31)) ^^^ (Int32.ofInt (-1))))) fun h30 =>
        bif px_inR v2 2 then
        bif px_inR v2 2 then
        sb (uI h30 88 v2.toNatClampNeg ((aI h30 88 v2.toNatClampNeg) ||| ((Int32.ofInt 1) <<< (v3 &&& 31)))) fun h34 =>
        rc (v3 + Int32.ofInt 1) h34
        else none
        else none
        else none
        else none
    else none
noncomputable def fn_M_opens_L57 (v1 : Int32) (v2 : Int32) : Nat → Int32 → px_H → Option (px_H)
  | 0 => fun _ _ => none
  | n + 1 => fb_M_opens_L57 v1 v2 (fn_M_opens_L57 v1 v2 n)
theorem fl_M_opens_L57 {v1 : Int32} {v2 : Int32}  : ∀ (n : Nat) (v3 : Int32) (hp : px_H) (lv : List (Nat × Value)) (res : px_H), oS hp → lk lv [(0, .ref 69), (1, .int v1), (2, .int v2), (3, .int v3)] → fn_M_opens_L57 v1 v2 n v3 hp = some res → px_Y mm_M_opens 57 lv [] hp none res := by
  intro n
  induction n with
  | zero =>
    intro v3 hp lv res hS hk h
    cases h
  | succ n ih =>
    intro v3 hp lv res hS hk h
    have h : fb_M_opens_L57 v1 v2 (fn_M_opens_L57 v1 v2 n) v3 hp = some res := h
    unfold fb_M_opens_L57 at h
    refine py_iln (pc := 57) (len := 1) (j := 3) rfl hk rfl ?_
    refine py_aln (pc := 58) (len := 1) (j := 0) rfl hk rfl ?_
    refine py_gI (pc := 59) (len := 3) (cs := [69]) rfl rfl rfl List.mem_cons_self hS ?_
    cases hb17 : px_cmp .ge v3 (gI hp 69 3) with
    | true =>
      have h := cd_t hb17 h
      refine py_ic (pc := 62) (len := 3) true rfl hb17 ?_
      have h := Option.some.inj h
      subst h
      exact py_rt (pc := 119) (len := 1) rfl rfl hS
    | false =>
      have h := cd_f hb17 h
      refine py_ic (pc := 62) (len := 3) false rfl hb17 ?_
      refine py_aln (pc := 65) (len := 1) (j := 0) rfl hk rfl ?_
      refine py_g1 89 (pc := 66) (len := 3) (cs := [69]) rfl rfl rfl List.mem_cons_self hS ?_
      refine py_iln (pc := 69) (len := 1) (j := 2) rfl hk rfl ?_
      obtain ⟨hi18, h⟩ := cd_n h
      refine py_ai (pc := 70) (len := 1) (cs := [89]) (t := 46) (n := 2) rfl rfl rfl hi18 List.mem_cons_self hS ?_
      refine py_iln (pc := 71) (len := 1) (j := 3) rfl hk rfl ?_
      refine py_st (pc := 72) (mi := mi_M_has) (N := mm_M_has) rfl rfl rfl (Nat.le_of_ble_eq_true rfl) (Nat.le_of_ble_eq_true rfl) rfl rfl (sx_has_C (aI hp 89 v2.toNatClampNeg) v3 hp) ?_
      show px_Y mm_M_opens 75 lv [.int (sx_has (aI hp 89 v2.toNatClampNeg) v3)] hp _ _
      cases hb19 : px_cmp .eq (sx_has (aI hp 89 v2.toNatClampNeg) v3) 0 with
      | true =>
        have h := cd_t hb19 h
        refine py_if (pc := 75) (len := 3) true rfl hb19 ?_
        refine py_inc (pc := 113) (len := 3) (j := 3) (n := 1) rfl rfl hk rfl (fun lv20 hk21 => ?_)
        have hk21 : lk lv20 [(3, .int (v3 + Int32.ofInt 1)), (0, .ref 69), (1, .int v1), (2, .int v2)] := hk21
        refine py_its (pc := 116) (pc1 := 57) (lv1 := lv20) (st1 := []) 1 (fun _ _ _ _ => rfl) ?_
        exact ih (v3 + Int32.ofInt 1) hp lv20 _ hS ⟨lk_find hk21 rfl, lk_find hk21 rfl, lk_find hk21 rfl, lk_find hk21 rfl, trivial⟩ h
      | false =>
        have h := cd_f hb19 h
        refine py_if (pc := 75) (len := 3) false rfl hb19 ?_
        refine py_aln (pc := 78) (len := 1) (j := 0) rfl hk rfl ?_
        refine py_iln (pc := 79) (len := 1) (j := 3) rfl hk rfl ?_
        refine py_iln (pc := 80) (len := 1) (j := 1) rfl hk rfl ?_
        obtain ⟨q22, hq23, h⟩ := bd_e h
        have hC24 := (fx_M_barredBy hS hq23).1
        refine py_vi (pc := 81) (mi := mi_M_barredBy) (cs := [69]) (N := mm_M_barredBy) rfl rfl rfl rfl List.mem_cons_self hS rfl (Nat.le_of_ble_eq_true rfl) (Nat.le_of_ble_eq_true rfl) rfl rfl hC24 ?_
        show px_Y mm_M_opens 84 lv [.int q22] hp _ _
        cases hb25 : px_cmp .ge q22 0 with
        | true =>
          have h := cd_t hb25 h
          refine py_if (pc := 84) (len := 3) true rfl hb25 ?_
          refine py_inc (pc := 113) (len := 3) (j := 3) (n := 1) rfl rfl hk rfl (fun lv26 hk27 => ?_)
          have hk27 : lk lv26 [(3, .int (v3 + Int32.ofInt 1)), (0, .ref 69), (1, .int v1), (2, .int v2)] := hk27
          refine py_its (pc := 116) (pc1 := 57) (lv1 := lv26) (st1 := []) 1 (fun _ _ _ _ => rfl) ?_
          exact ih (v3 + Int32.ofInt 1) hp lv26 _ hS ⟨lk_find hk27 rfl, lk_find hk27 rfl, lk_find hk27 rfl, lk_find hk27 rfl, trivial⟩ h
        | false =>
          have h := cd_f hb25 h
          refine py_if (pc := 84) (len := 3) false rfl hb25 ?_
          refine py_aln (pc := 87) (len := 1) (j := 0) rfl hk rfl ?_
          refine py_g1 89 (pc := 88) (len := 3) (cs := [69]) rfl rfl rfl List.mem_cons_self hS ?_
          refine py_iln (pc := 91) (len := 1) (j := 2) rfl hk rfl ?_
          refine py_its (pc := 92) (pc1 := 93) (lv1 := lv) (st1 := [.int v2, .ref 89, .int v2, .ref 89]) 1 (fun _ _ _ _ => rfl) ?_
          obtain ⟨hi28, h⟩ := cd_n h
          refine py_ai (pc := 93) (len := 1) (cs := [89]) (t := 46) (n := 2) rfl rfl rfl hi28 List.mem_cons_self hS ?_
          refine py_its (pc := 94) (pc1 := 95) (lv1 := lv) (st1 := [.int (Int32.ofInt 1), .int (aI hp 89 v2.toNatClampNeg), .int v2, .ref 89]) 1 (fun _ _ _ _ => rfl) ?_
          refine py_iln (pc := 95) (len := 1) (j := 3) rfl hk rfl ?_
          refine py_its (pc := 96) (pc1 := 100) (lv1 := lv) (st1 := [.int ((aI hp 89 v2.toNatClampNeg) &&& (((Int32.ofInt 1) <<< (v3 &&& 31)) ^^^ (Int32.ofInt (-1)))), .int v2, .ref 89]) 4 (fun _ _ _ _ => rfl) ?_
          obtain ⟨hi29, h⟩ := cd_n h
          have h := sb_e h
          refine py_si (pc := 100) (len := 1) (cs := [89]) (t := 46) (n := 2) rfl rfl rfl hi29 List.mem_cons_self hS ?_
          have hS31 : oS (uI hp 89 v2.toNatClampNeg ((aI hp 89 v2.toNatClampNeg) &&& (((Int32.ofInt 1) <<< (v3 &&& 31)) ^^^ (Int32.ofInt (-1))))) := oS_uI (cs := [89]) (t := 46) (n := 2) rfl List.mem_cons_self hS
          generalize (uI hp 89 v2.toNatClampNeg ((aI hp 89 v2.toNatClampNeg) &&& (((Int32.ofInt 1) <<< (v3 &&& 31)) ^^^ (Int32.ofInt (-1))))) = h30 at h hS31 ⊢
          refine py_aln (pc := 101) (len := 1) (j := 0) rfl hk rfl ?_
          refine py_g1 88 (pc := 102) (len := 3) (cs := [69]) rfl rfl rfl List.mem_cons_self hS31 ?_
          refine py_iln (pc := 105) (len := 1) (j := 2) rfl hk rfl ?_
          refine py_its (pc := 106) (pc1 := 107) (lv1 := lv) (st1 := [.int v2, .ref 88, .int v2, .ref 88]) 1 (fun _ _ _ _ => rfl) ?_
          obtain ⟨hi32, h⟩ := cd_n h
          refine py_ai (pc := 107) (len := 1) (cs := [88]) (t := 45) (n := 2) rfl rfl rfl hi32 List.mem_cons_self hS31 ?_
          refine py_its (pc := 108) (pc1 := 109) (lv1 := lv) (st1 := [.int (Int32.ofInt 1), .int (aI h30 88 v2.toNatClampNeg), .int v2, .ref 88]) 1 (fun _ _ _ _ => rfl) ?_
          refine py_iln (pc := 109) (len := 1) (j := 3) rfl hk rfl ?_
          refine py_its (pc := 110) (pc1 := 112) (lv1 := lv) (st1 := [.int ((aI h30 88 v2.toNatClampNeg) ||| ((Int32.ofInt 1) <<< (v3 &&& 31))), .int v2, .ref 88]) 2 (fun _ _ _ _ => rfl) ?_
          obtain ⟨hi33, h⟩ := cd_n h
          have h := sb_e h
          refine py_si (pc := 112) (len := 1) (cs := [88]) (t := 45) (n := 2) rfl rfl rfl hi33 List.mem_cons_self hS31 ?_
          have hS35 : oS (uI h30 88 v2.toNatClampNeg ((aI h30 88 v2.toNatClampNeg) ||| ((Int32.ofInt 1) <<< (v3 &&& 31)))) := oS_uI (cs := [88]) (t := 45) (n := 2) rfl List.mem_cons_self hS31
          generalize (uI h30 88 v2.toNatClampNeg ((aI h30 88 v2.toNatClampNeg) ||| ((Int32.ofInt 1) <<< (v3 &&& 31)))) = h34 at h hS35 ⊢
          refine py_inc (pc := 113) (len := 3) (j := 3) (n := 1) rfl rfl hk rfl (fun lv36 hk37 => ?_)
          have hk37 : lk lv36 [(3, .int (v3 + Int32.ofInt 1)), (0, .ref 69), (1, .int v1), (2, .int v2)] := hk37
          refine py_its (pc := 116) (pc1 := 57) (lv1 := lv36) (st1 := []) 1 (fun _ _ _ _ => rfl) ?_
          exact ih (v3 + Int32.ofInt 1) h34 lv36 _ hS35 ⟨lk_find hk37 rfl, lk_find hk37 rfl, lk_find hk37 rfl, lk_find hk37 rfl, trivial⟩ h
noncomputable def fn_M_opens (a1 : Int32) (hp : px_H) : Option (px_H) :=
  bif px_inR a1 6 then
  sb (wF hp 69 32 (.int (Int32.ofInt 0))) fun h2 =>
  sb (wF h2 69 33 (.int (Int32.ofInt 0))) fun h4 =>
  bif px_inR (aI hp 79 a1.toNatClampNeg) 2 then
  bif px_cmp .ne (aI h4 88 (aI hp 79 a1.toNatClampNeg).toNatClampNeg) 0 then
    fn_M_opens_L57 a1 (aI hp 79 a1.toNatClampNeg) fu (Int32.ofInt 0) h4
  else
    bif px_inR (aI hp 79 a1.toNatClampNeg) 2 then
    bif px_cmp .eq (aI h4 77 (aI hp 79 a1.toNatClampNeg).toNatClampNeg) 0 then
      fn_M_opens_L57 a1 (aI hp 79 a1.toNatClampNeg) fu (Int32.ofInt 0) h4
    else
      bif px_inR (aI hp 79 a1.toNatClampNeg) 2 then
      bif px_inR (aI hp 79 a1.toNatClampNeg) 2 then
      sb (uI h4 88 (aI hp 79 a1.toNatClampNeg).toNatClampNeg (aI h4 76 (aI hp 79 a1.toNatClampNeg).toNatClampNeg)) fun h12 =>
      bif px_inR (aI hp 79 a1.toNatClampNeg) 2 then
      sb (uI h12 89 (aI hp 79 a1.toNatClampNeg).toNatClampNeg (Int32.ofInt 0)) fun h15 =>
      some h15
      else none
      else none
      else none
    else none
  else none
  else none
theorem fx_M_opens {a1 : Int32} {hp : px_H} {res : px_H} (hS : oS hp) (h : fn_M_opens a1 hp = some res) : px_C nm_T nm_P mi_M_opens [.ref 69, .int a1] hp none res ∧ oS res := by
  unfold fn_M_opens at h
  refine py_C (M := mm_M_opens) rfl (Nat.le_of_ble_eq_true rfl) ?_
  show px_Y mm_M_opens 0 [(0, .ref 69), (1, .int a1)] [] hp _ _
  refine py_its (pc := 0) (pc1 := 1) (lv1 := [(0, .ref 69), (1, .int a1)]) (st1 := [.ref 69]) 1 (fun _ _ _ _ => rfl) ?_
  refine py_g1 79 (pc := 1) (len := 3) (cs := [69]) rfl rfl rfl List.mem_cons_self hS ?_
  refine py_its (pc := 4) (pc1 := 5) (lv1 := [(0, .ref 69), (1, .int a1)]) (st1 := [.int a1, .ref 79]) 1 (fun _ _ _ _ => rfl) ?_
  obtain ⟨hi1, h⟩ := cd_n h
  refine py_ai (pc := 5) (len := 1) (cs := [79]) (t := 36) (n := 6) rfl rfl rfl hi1 List.mem_cons_self hS ?_
  refine py_its (pc := 6) (pc1 := 9) (lv1 := [(2, .int (aI hp 79 a1.toNatClampNeg)), (0, .ref 69), (1, .int a1)]) (st1 := [.int (Int32.ofInt 0), .ref 69]) 3 (fun _ _ _ _ => rfl) ?_
  have h := sb_e h
  refine py_pI (pc := 9) (len := 3) (cs := [69]) rfl rfl rfl List.mem_cons_self hS rfl rfl rfl rfl ?_
  have hS3 : oS (wF hp 69 32 (.int (Int32.ofInt 0))) := oS_wI (cs := [69]) (ci := 9) rfl List.mem_cons_self hS
  generalize (wF hp 69 32 (.int (Int32.ofInt 0))) = h2 at h hS3 ⊢
  refine py_its (pc := 12) (pc1 := 14) (lv1 := [(2, .int (aI hp 79 a1.toNatClampNeg)), (0, .ref 69), (1, .int a1)]) (st1 := [.int (Int32.ofInt 0), .ref 69]) 2 (fun _ _ _ _ => rfl) ?_
  have h := sb_e h
  refine py_pI (pc := 14) (len := 3) (cs := [69]) rfl rfl rfl List.mem_cons_self hS3 rfl rfl rfl rfl ?_
  have hS5 : oS (wF h2 69 33 (.int (Int32.ofInt 0))) := oS_wI (cs := [69]) (ci := 9) rfl List.mem_cons_self hS3
  generalize (wF h2 69 33 (.int (Int32.ofInt 0))) = h4 at h hS5 ⊢
  refine py_its (pc := 17) (pc1 := 18) (lv1 := [(2, .int (aI hp 79 a1.toNatClampNeg)), (0, .ref 69), (1, .int a1)]) (st1 := [.ref 69]) 1 (fun _ _ _ _ => rfl) ?_
  refine py_g1 88 (pc := 18) (len := 3) (cs := [69]) rfl rfl rfl List.mem_cons_self hS5 ?_
  refine py_its (pc := 21) (pc1 := 22) (lv1 := [(2, .int (aI hp 79 a1.toNatClampNeg)), (0, .ref 69), (1, .int a1)]) (st1 := [.int (aI hp 79 a1.toNatClampNeg), .ref 88]) 1 (fun _ _ _ _ => rfl) ?_
  obtain ⟨hi6, h⟩ := cd_n h
  refine py_ai (pc := 22) (len := 1) (cs := [88]) (t := 45) (n := 2) rfl rfl rfl hi6 List.mem_cons_self hS5 ?_
  cases hb7 : px_cmp .ne (aI h4 88 (aI hp 79 a1.toNatClampNeg).toNatClampNeg) 0 with
  | true =>
    have h := cd_t hb7 h
    refine py_if (pc := 23) (len := 3) true rfl hb7 ?_
    refine py_its (pc := 55) (pc1 := 57) (lv1 := [(3, .int (Int32.ofInt 0)), (2, .int (aI hp 79 a1.toNatClampNeg)), (0, .ref 69), (1, .int a1)]) (st1 := []) 2 (fun _ _ _ _ => rfl) ?_
    exact fl_M_opens_L57 fu (Int32.ofInt 0) h4 [(3, .int (Int32.ofInt 0)), (2, .int (aI hp 79 a1.toNatClampNeg)), (0, .ref 69), (1, .int a1)] _ hS5 ⟨rfl, rfl, rfl, rfl, trivial⟩ h
  | false =>
    have h := cd_f hb7 h
    refine py_if (pc := 23) (len := 3) false rfl hb7 ?_
    refine py_its (pc := 26) (pc1 := 27) (lv1 := [(2, .int (aI hp 79 a1.toNatClampNeg)), (0, .ref 69), (1, .int a1)]) (st1 := [.ref 69]) 1 (fun _ _ _ _ => rfl) ?_
    refine py_g1 77 (pc := 27) (len := 3) (cs := [69]) rfl rfl rfl List.mem_cons_self hS5 ?_
    refine py_its (pc := 30) (pc1 := 31) (lv1 := [(2, .int (aI hp 79 a1.toNatClampNeg)), (0, .ref 69), (1, .int a1)]) (st1 := [.int (aI hp 79 a1.toNatClampNeg), .ref 77]) 1 (fun _ _ _ _ => rfl) ?_
    obtain ⟨hi8, h⟩ := cd_n h
    refine py_ab (pc := 31) (len := 1) (cs := [77]) (t := 34) (n := 2) rfl rfl rfl hi8 List.mem_cons_self hS5 ?_
    cases hb9 : px_cmp .eq (aI h4 77 (aI hp 79 a1.toNatClampNeg).toNatClampNeg) 0 with
    | true =>
      have h := cd_t hb9 h
      refine py_if (pc := 32) (len := 3) true rfl hb9 ?_
      refine py_its (pc := 55) (pc1 := 57) (lv1 := [(3, .int (Int32.ofInt 0)), (2, .int (aI hp 79 a1.toNatClampNeg)), (0, .ref 69), (1, .int a1)]) (st1 := []) 2 (fun _ _ _ _ => rfl) ?_
      exact fl_M_opens_L57 fu (Int32.ofInt 0) h4 [(3, .int (Int32.ofInt 0)), (2, .int (aI hp 79 a1.toNatClampNeg)), (0, .ref 69), (1, .int a1)] _ hS5 ⟨rfl, rfl, rfl, rfl, trivial⟩ h
    | false =>
      have h := cd_f hb9 h
      refine py_if (pc := 32) (len := 3) false rfl hb9 ?_
      refine py_its (pc := 35) (pc1 := 36) (lv1 := [(2, .int (aI hp 79 a1.toNatClampNeg)), (0, .ref 69), (1, .int a1)]) (st1 := [.ref 69]) 1 (fun _ _ _ _ => rfl) ?_
      refine py_g1 88 (pc := 36) (len := 3) (cs := [69]) rfl rfl rfl List.mem_cons_self hS5 ?_
      refine py_its (pc := 39) (pc1 := 41) (lv1 := [(2, .int (aI hp 79 a1.toNatClampNeg)), (0, .ref 69), (1, .int a1)]) (st1 := [.ref 69, .int (aI hp 79 a1.toNatClampNeg), .ref 88]) 2 (fun _ _ _ _ => rfl) ?_
      refine py_g1 76 (pc := 41) (len := 3) (cs := [69]) rfl rfl rfl List.mem_cons_self hS5 ?_
      refine py_its (pc := 44) (pc1 := 45) (lv1 := [(2, .int (aI hp 79 a1.toNatClampNeg)), (0, .ref 69), (1, .int a1)]) (st1 := [.int (aI hp 79 a1.toNatClampNeg), .ref 76, .int (aI hp 79 a1.toNatClampNeg), .ref 88]) 1 (fun _ _ _ _ => rfl) ?_
      obtain ⟨hi10, h⟩ := cd_n h
      refine py_ai (pc := 45) (len := 1) (cs := [76]) (t := 33) (n := 2) rfl rfl rfl hi10 List.mem_cons_self hS5 ?_
      obtain ⟨hi11, h⟩ := cd_n h
      have h := sb_e h
      refine py_si (pc := 46) (len := 1) (cs := [88]) (t := 45) (n := 2) rfl rfl rfl hi11 List.mem_cons_self hS5 ?_
      have hS13 : oS (uI h4 88 (aI hp 79 a1.toNatClampNeg).toNatClampNeg (aI h4 76 (aI hp 79 a1.toNatClampNeg).toNatClampNeg)) := oS_uI (cs := [88]) (t := 45) (n := 2) rfl List.mem_cons_self hS5
      generalize (uI h4 88 (aI hp 79 a1.toNatClampNeg).toNatClampNeg (aI h4 76 (aI hp 79 a1.toNatClampNeg).toNatClampNeg)) = h12 at h hS13 ⊢
      refine py_its (pc := 47) (pc1 := 48) (lv1 := [(2, .int (aI hp 79 a1.toNatClampNeg)), (0, .ref 69), (1, .int a1)]) (st1 := [.ref 69]) 1 (fun _ _ _ _ => rfl) ?_
      refine py_g1 89 (pc := 48) (len := 3) (cs := [69]) rfl rfl rfl List.mem_cons_self hS13 ?_
      refine py_its (pc := 51) (pc1 := 53) (lv1 := [(2, .int (aI hp 79 a1.toNatClampNeg)), (0, .ref 69), (1, .int a1)]) (st1 := [.int (Int32.ofInt 0), .int (aI hp 79 a1.toNatClampNeg), .ref 89]) 2 (fun _ _ _ _ => rfl) ?_
      obtain ⟨hi14, h⟩ := cd_n h
      have h := sb_e h
      refine py_si (pc := 53) (len := 1) (cs := [89]) (t := 46) (n := 2) rfl rfl rfl hi14 List.mem_cons_self hS13 ?_
      have hS16 : oS (uI h12 89 (aI hp 79 a1.toNatClampNeg).toNatClampNeg (Int32.ofInt 0)) := oS_uI (cs := [89]) (t := 46) (n := 2) rfl List.mem_cons_self hS13
      generalize (uI h12 89 (aI hp 79 a1.toNatClampNeg).toNatClampNeg (Int32.ofInt 0)) = h15 at h hS16 ⊢
      have h := Option.some.inj h
      subst h
      exact py_rt (pc := 54) (len := 1) rfl rfl hS16
/-! M_isOver -/
noncomputable def fn_M_isOver (a1 : Int32) (hp : px_H) : Option (Int32) :=
  bif px_inR a1 6 then
  bif px_inR (aI hp 79 a1.toNatClampNeg) 2 then
  bif px_cmp .eq (aI hp 88 (aI hp 79 a1.toNatClampNeg).toNatClampNeg) 0 then
    some (Int32.ofInt 1)
  else
    bif px_inR a1 6 then
    bif px_cmp .ne (nm_bc (gI hp 69 33)) (aI hp 80 a1.toNatClampNeg) then
      some (Int32.ofInt 0)
    else
      some (Int32.ofInt 1)
    else none
  else none
  else none
theorem fx_M_isOver {a1 : Int32} {hp : px_H} {res : Int32} (hS : oS hp) (h : fn_M_isOver a1 hp = some res) : px_C nm_T nm_P mi_M_isOver [.ref 69, .int a1] hp (some (.int res)) hp ∧ oS hp := by
  unfold fn_M_isOver at h
  refine py_C (M := mm_M_isOver) rfl (Nat.le_of_ble_eq_true rfl) ?_
  show px_Y mm_M_isOver 0 [(0, .ref 69), (1, .int a1)] [] hp _ _
  refine py_its (pc := 0) (pc1 := 1) (lv1 := [(0, .ref 69), (1, .int a1)]) (st1 := [.ref 69]) 1 (fun _ _ _ _ => rfl) ?_
  refine py_g1 88 (pc := 1) (len := 3) (cs := [69]) rfl rfl rfl List.mem_cons_self hS ?_
  refine py_its (pc := 4) (pc1 := 5) (lv1 := [(0, .ref 69), (1, .int a1)]) (st1 := [.ref 69, .ref 88]) 1 (fun _ _ _ _ => rfl) ?_
  refine py_g1 79 (pc := 5) (len := 3) (cs := [69]) rfl rfl rfl List.mem_cons_self hS ?_
  refine py_its (pc := 8) (pc1 := 9) (lv1 := [(0, .ref 69), (1, .int a1)]) (st1 := [.int a1, .ref 79, .ref 88]) 1 (fun _ _ _ _ => rfl) ?_
  obtain ⟨hi1, h⟩ := cd_n h
  refine py_ai (pc := 9) (len := 1) (cs := [79]) (t := 36) (n := 6) rfl rfl rfl hi1 List.mem_cons_self hS ?_
  obtain ⟨hi2, h⟩ := cd_n h
  refine py_ai (pc := 10) (len := 1) (cs := [88]) (t := 45) (n := 2) rfl rfl rfl hi2 List.mem_cons_self hS ?_
  cases hb3 : px_cmp .eq (aI hp 88 (aI hp 79 a1.toNatClampNeg).toNatClampNeg) 0 with
  | true =>
    have h := cd_t hb3 h
    refine py_if (pc := 11) (len := 3) true rfl hb3 ?_
    refine py_its (pc := 30) (pc1 := 35) (lv1 := [(0, .ref 69), (1, .int a1)]) (st1 := [.int (Int32.ofInt 1)]) 2 (fun _ _ _ _ => rfl) ?_
    have h := Option.some.inj h
    subst h
    exact py_ir (pc := 35) (len := 1) (ty := .boolean) rfl rfl (by decide) hS
  | false =>
    have h := cd_f hb3 h
    refine py_if (pc := 11) (len := 3) false rfl hb3 ?_
    refine py_its (pc := 14) (pc1 := 15) (lv1 := [(0, .ref 69), (1, .int a1)]) (st1 := [.ref 69]) 1 (fun _ _ _ _ => rfl) ?_
    refine py_gI (pc := 15) (len := 3) (cs := [69]) rfl rfl rfl List.mem_cons_self hS ?_
    refine py_st (pc := 18) (mi := mi_I_bitCount) (N := mm_I_bitCount) rfl rfl rfl (Nat.le_of_ble_eq_true rfl) (Nat.le_of_ble_eq_true rfl) rfl rfl (nm_bc_C (gI hp 69 33) hp) ?_
    show px_Y mm_M_isOver 21 [(0, .ref 69), (1, .int a1)] [.int (nm_bc (gI hp 69 33))] hp _ _
    refine py_its (pc := 21) (pc1 := 22) (lv1 := [(0, .ref 69), (1, .int a1)]) (st1 := [.ref 69, .int (nm_bc (gI hp 69 33))]) 1 (fun _ _ _ _ => rfl) ?_
    refine py_g1 80 (pc := 22) (len := 3) (cs := [69]) rfl rfl rfl List.mem_cons_self hS ?_
    refine py_its (pc := 25) (pc1 := 26) (lv1 := [(0, .ref 69), (1, .int a1)]) (st1 := [.int a1, .ref 80, .int (nm_bc (gI hp 69 33))]) 1 (fun _ _ _ _ => rfl) ?_
    obtain ⟨hi4, h⟩ := cd_n h
    refine py_ai (pc := 26) (len := 1) (cs := [80]) (t := 37) (n := 6) rfl rfl rfl hi4 List.mem_cons_self hS ?_
    cases hb5 : px_cmp .ne (nm_bc (gI hp 69 33)) (aI hp 80 a1.toNatClampNeg) with
    | true =>
      have h := cd_t hb5 h
      refine py_ic (pc := 27) (len := 3) true rfl hb5 ?_
      refine py_its (pc := 34) (pc1 := 35) (lv1 := [(0, .ref 69), (1, .int a1)]) (st1 := [.int (Int32.ofInt 0)]) 1 (fun _ _ _ _ => rfl) ?_
      have h := Option.some.inj h
      subst h
      exact py_ir (pc := 35) (len := 1) (ty := .boolean) rfl rfl (by decide) hS
    | false =>
      have h := cd_f hb5 h
      refine py_ic (pc := 27) (len := 3) false rfl hb5 ?_
      refine py_its (pc := 30) (pc1 := 35) (lv1 := [(0, .ref 69), (1, .int a1)]) (st1 := [.int (Int32.ofInt 1)]) 2 (fun _ _ _ _ => rfl) ?_
      have h := Option.some.inj h
      subst h
      exact py_ir (pc := 35) (len := 1) (ty := .boolean) rfl rfl (by decide) hS
/-! M_draws -/
noncomputable def fn_M_draws (a1 : Int32) (hp : px_H) : Option (Int32 × px_H) :=
  sb (wF hp 69 37 (.int (((gI hp 69 37) * (Int32.ofInt 1103515245)) + (Int16.ofInt 12345).toInt32))) fun h1 =>
  bif decide (a1 = 0) then none else
  some (((nm_us (gI h1 69 37) (Int8.ofInt 16).toInt32) - (nm_us (gI h1 69 37) (Int8.ofInt 16).toInt32) / a1 * a1), h1)
theorem fx_M_draws {a1 : Int32} {hp : px_H} {res : Int32 × px_H} (hS : oS hp) (h : fn_M_draws a1 hp = some res) : px_C nm_T nm_P mi_M_draws [.ref 69, .int a1] hp (some (.int res.1)) res.2 ∧ oS res.2 := by
  unfold fn_M_draws at h
  refine py_C (M := mm_M_draws) rfl (Nat.le_of_ble_eq_true rfl) ?_
  show px_Y mm_M_draws 0 [(0, .ref 69), (1, .int a1)] [] hp _ _
  refine py_its (pc := 0) (pc1 := 2) (lv1 := [(0, .ref 69), (1, .int a1)]) (st1 := [.ref 69, .ref 69]) 2 (fun _ _ _ _ => rfl) ?_
  refine py_gI (pc := 2) (len := 3) (cs := [69]) rfl rfl rfl List.mem_cons_self hS ?_
  refine py_its (pc := 5) (pc1 := 12) (lv1 := [(0, .ref 69), (1, .int a1)]) (st1 := [.int (((gI hp 69 37) * (Int32.ofInt 1103515245)) + (Int16.ofInt 12345).toInt32), .ref 69]) 4 (fun _ _ _ _ => rfl) ?_
  have h := sb_e h
  refine py_pI (pc := 12) (len := 3) (cs := [69]) rfl rfl rfl List.mem_cons_self hS rfl rfl rfl rfl ?_
  have hS2 : oS (wF hp 69 37 (.int (((gI hp 69 37) * (Int32.ofInt 1103515245)) + (Int16.ofInt 12345).toInt32))) := oS_wI (cs := [69]) (ci := 9) rfl List.mem_cons_self hS
  generalize (wF hp 69 37 (.int (((gI hp 69 37) * (Int32.ofInt 1103515245)) + (Int16.ofInt 12345).toInt32))) = h1 at h hS2 ⊢
  refine py_its (pc := 15) (pc1 := 16) (lv1 := [(0, .ref 69), (1, .int a1)]) (st1 := [.ref 69]) 1 (fun _ _ _ _ => rfl) ?_
  refine py_gI (pc := 16) (len := 3) (cs := [69]) rfl rfl rfl List.mem_cons_self hS2 ?_
  refine py_its (pc := 19) (pc1 := 23) (lv1 := [(0, .ref 69), (1, .int a1)]) (st1 := [.int a1, .int (nm_us (gI h1 69 37) (Int8.ofInt 16).toInt32)]) 3 (fun _ _ _ _ => rfl) ?_
  obtain ⟨hz3, h⟩ := cd_m h
  refine py_rem (pc := 23) (len := 1) rfl hz3 ?_
  have h := Option.some.inj h
  subst h
  exact py_ir (pc := 24) (len := 1) (ty := .int) rfl rfl rfl hS2
/-! M_nth -/
noncomputable def fb_M_nth_L4 (v0 : Int32) (hp : px_H) (rc : Int32 → Int32 → Option (Int32)) (v2 : Int32) (v3 : Int32) : Option (Int32) :=
  bif px_cmp .ge v3 (Int8.ofInt 10).toInt32 then
    some (Int32.ofInt (-1))
  else
    bif px_cmp .eq (sx_has v0 v3) 0 then
      rc v2 (v3 + Int32.ofInt 1)
    else
      bif px_cmp .ne v2 0 then
        rc (v2 + Int32.ofInt (-1)) (v3 + Int32.ofInt 1)
      else
        some v3
noncomputable def fn_M_nth_L4 (v0 : Int32) (hp : px_H) : Nat → Int32 → Int32 → Option (Int32)
  | 0 => fun _ _ => none
  | n + 1 => fb_M_nth_L4 v0 hp (fn_M_nth_L4 v0 hp n)
theorem fl_M_nth_L4 {v0 : Int32} {hp : px_H}  : ∀ (n : Nat) (v2 : Int32) (v3 : Int32) (lv : List (Nat × Value)) (res : Int32), oS hp → lk lv [(0, .int v0), (2, .int v2), (3, .int v3)] → fn_M_nth_L4 v0 hp n v2 v3 = some res → px_Y mm_M_nth 4 lv [] hp (some (.int res)) hp := by
  intro n
  induction n with
  | zero =>
    intro v2 v3 lv res hS hk h
    cases h
  | succ n ih =>
    intro v2 v3 lv res hS hk h
    have h : fb_M_nth_L4 v0 hp (fn_M_nth_L4 v0 hp n) v2 v3 = some res := h
    unfold fb_M_nth_L4 at h
    refine py_iln (pc := 4) (len := 1) (j := 3) rfl hk rfl ?_
    refine py_its (pc := 5) (pc1 := 7) (lv1 := lv) (st1 := [.int (Int8.ofInt 10).toInt32, .int v3]) 1 (fun _ _ _ _ => rfl) ?_
    cases hb1 : px_cmp .ge v3 (Int8.ofInt 10).toInt32 with
    | true =>
      have h := cd_t hb1 h
      refine py_ic (pc := 7) (len := 3) true rfl hb1 ?_
      refine py_its (pc := 33) (pc1 := 34) (lv1 := lv) (st1 := [.int (Int32.ofInt (-1))]) 1 (fun _ _ _ _ => rfl) ?_
      have h := Option.some.inj h
      subst h
      exact py_ir (pc := 34) (len := 1) (ty := .int) rfl rfl rfl hS
    | false =>
      have h := cd_f hb1 h
      refine py_ic (pc := 7) (len := 3) false rfl hb1 ?_
      refine py_iln (pc := 10) (len := 1) (j := 0) rfl hk rfl ?_
      refine py_iln (pc := 11) (len := 1) (j := 3) rfl hk rfl ?_
      refine py_st (pc := 12) (mi := mi_M_has) (N := mm_M_has) rfl rfl rfl (Nat.le_of_ble_eq_true rfl) (Nat.le_of_ble_eq_true rfl) rfl rfl (sx_has_C v0 v3 hp) ?_
      show px_Y mm_M_nth 15 lv [.int (sx_has v0 v3)] hp _ _
      cases hb2 : px_cmp .eq (sx_has v0 v3) 0 with
      | true =>
        have h := cd_t hb2 h
        refine py_if (pc := 15) (len := 3) true rfl hb2 ?_
        refine py_inc (pc := 27) (len := 3) (j := 3) (n := 1) rfl rfl hk rfl (fun lv3 hk4 => ?_)
        have hk4 : lk lv3 [(3, .int (v3 + Int32.ofInt 1)), (0, .int v0), (2, .int v2)] := hk4
        refine py_its (pc := 30) (pc1 := 4) (lv1 := lv3) (st1 := []) 1 (fun _ _ _ _ => rfl) ?_
        exact ih v2 (v3 + Int32.ofInt 1) lv3 _ hS ⟨lk_find hk4 rfl, lk_find hk4 rfl, lk_find hk4 rfl, trivial⟩ h
      | false =>
        have h := cd_f hb2 h
        refine py_if (pc := 15) (len := 3) false rfl hb2 ?_
        refine py_iln (pc := 18) (len := 1) (j := 2) rfl hk rfl ?_
        cases hb5 : px_cmp .ne v2 0 with
        | true =>
          have h := cd_t hb5 h
          refine py_if (pc := 19) (len := 3) true rfl hb5 ?_
          refine py_inc (pc := 24) (len := 3) (j := 2) (n := (-1)) rfl rfl hk rfl (fun lv6 hk7 => ?_)
          have hk7 : lk lv6 [(2, .int (v2 + Int32.ofInt (-1))), (0, .int v0), (3, .int v3)] := hk7
          refine py_inc (pc := 27) (len := 3) (j := 3) (n := 1) rfl rfl hk7 rfl (fun lv8 hk9 => ?_)
          have hk9 : lk lv8 [(3, .int (v3 + Int32.ofInt 1)), (2, .int (v2 + Int32.ofInt (-1))), (0, .int v0)] := hk9
          refine py_its (pc := 30) (pc1 := 4) (lv1 := lv8) (st1 := []) 1 (fun _ _ _ _ => rfl) ?_
          exact ih (v2 + Int32.ofInt (-1)) (v3 + Int32.ofInt 1) lv8 _ hS ⟨lk_find hk9 rfl, lk_find hk9 rfl, lk_find hk9 rfl, trivial⟩ h
        | false =>
          have h := cd_f hb5 h
          refine py_if (pc := 19) (len := 3) false rfl hb5 ?_
          refine py_iln (pc := 22) (len := 1) (j := 3) rfl hk rfl ?_
          have h := Option.some.inj h
          subst h
          exact py_ir (pc := 23) (len := 1) (ty := .int) rfl rfl rfl hS
noncomputable def fn_M_nth (a0 : Int32) (a1 : Int32) (hp : px_H) : Option (Int32) :=
  fn_M_nth_L4 a0 hp fu a1 (Int32.ofInt 0)
theorem fx_M_nth {a0 : Int32} {a1 : Int32} {hp : px_H} {res : Int32} (hS : oS hp) (h : fn_M_nth a0 a1 hp = some res) : px_C nm_T nm_P mi_M_nth [.int a0, .int a1] hp (some (.int res)) hp ∧ oS hp := by
  unfold fn_M_nth at h
  refine py_C (M := mm_M_nth) rfl (Nat.le_of_ble_eq_true rfl) ?_
  show px_Y mm_M_nth 0 [(0, .int a0), (1, .int a1)] [] hp _ _
  refine py_its (pc := 0) (pc1 := 4) (lv1 := [(3, .int (Int32.ofInt 0)), (2, .int a1), (0, .int a0), (1, .int a1)]) (st1 := []) 4 (fun _ _ _ _ => rfl) ?_
  exact fl_M_nth_L4 fu a1 (Int32.ofInt 0) [(3, .int (Int32.ofInt 0)), (2, .int a1), (0, .int a0), (1, .int a1)] _ hS ⟨rfl, rfl, rfl, trivial⟩ h
/-! M_takes -/
noncomputable def fn_M_takes (a1 : Int32) (a2 : Int32) (hp : px_H) : Option (Int32 × px_H) :=
  bif px_inR a1 6 then
  bif px_inR (aI hp 79 a1.toNatClampNeg) 2 then
  bif px_inR (aI hp 79 a1.toNatClampNeg) 2 then
  sb (uI hp 88 (aI hp 79 a1.toNatClampNeg).toNatClampNeg ((aI hp 88 (aI hp 79 a1.toNatClampNeg).toNatClampNeg) &&& (((Int32.ofInt 1) <<< (a2 &&& 31)) ^^^ (Int32.ofInt (-1))))) fun h4 =>
  (fn_M_isDead a2 a1 h4).bind fun q6 =>
  bif px_cmp .eq q6 0 then
    (fn_M_barredBy a2 a1 h4).bind fun q10 =>
    bif px_cmp .ge q10 0 then
      bif px_inR (((Int8.ofInt 7).toInt32 * (gI h4 69 15)) + q10) 28 then
      bif px_cmp .ne (aI h4 84 (((Int8.ofInt 7).toInt32 * (gI h4 69 15)) + q10).toNatClampNeg) 0 then
        sb (wF h4 69 32 (.int ((gI h4 69 32) ||| (Int32.ofInt 0)))) fun h16 =>
        bif px_inR (aI hp 79 a1.toNatClampNeg) 2 then
        bif px_cmp .ne (aI h4 84 (((Int8.ofInt 7).toInt32 * (gI h4 69 15)) + q10).toNatClampNeg) (Int32.ofInt 2) then
          bif px_inR (aI hp 79 a1.toNatClampNeg) 2 then
          sb (uI h16 89 (aI hp 79 a1.toNatClampNeg).toNatClampNeg ((aI h16 89 (aI hp 79 a1.toNatClampNeg).toNatClampNeg) ||| (Int32.ofInt 0))) fun h21 =>
          some ((Int32.ofInt 0), h21)
          else none
        else
          bif px_inR (aI hp 79 a1.toNatClampNeg) 2 then
          sb (uI h16 89 (aI hp 79 a1.toNatClampNeg).toNatClampNeg ((aI h16 89 (aI hp 79 a1.toNatClampNeg).toNatClampNeg) ||| ((Int32.ofInt 1) <<< (a2 &&& 31)))) fun h24 =>
          some ((Int32.ofInt 0), h24)
          else none
        else none
      else
        sb (wF h4 69 32 (.int ((gI h4 69 32) ||| ((Int32.ofInt 1) <<< (a2 &&& 31))))) fun h26 =>
        bif px_inR (aI hp 79 a1.toNatClampNeg) 2 then
        bif px_cmp .ne (aI h4 84 (((Int8.ofInt 7).toInt32 * (gI h4 69 15)) + q10).toNatClampNeg) (Int32.ofInt 2) then
          bif px_inR (aI hp 79 a1.toNatClampNeg) 2 then
          sb (uI h26 89 (aI hp 79 a1.toNatClampNeg).toNatClampNeg ((aI h26 89 (aI hp 79 a1.toNatClampNeg).toNatClampNeg) ||| (Int32.ofInt 0))) fun h31 =>
          some ((Int32.ofInt 0), h31)
          else none
        else
          bif px_inR (aI hp 79 a1.toNatClampNeg) 2 then
          sb (uI h26 89 (aI hp 79 a1.toNatClampNeg).toNatClampNeg ((aI h26 89 (aI hp 79 a1.toNatClampNeg).toNatClampNeg) ||| ((Int32.ofInt 1) <<< (a2 &&& 31)))) fun h34 =>
          some ((Int32.ofInt 0), h34)
          else none
        else none
      else none
    else
      sb (wF h4 69 33 (.int ((gI h4 69 33) ||| ((Int32.ofInt 1) <<< (a2 &&& 31))))) fun h36 =>
      bif px_inR a2 10 then
      sb (uI h36 90 a2.toNatClampNeg (a1 + (Int32.ofInt 1))) fun h39 =>
      some ((Int32.ofInt 1), h39)
      else none
  else
    some ((Int32.ofInt 0), h4)
  else none
  else none
  else none
theorem fx_M_takes {a1 : Int32} {a2 : Int32} {hp : px_H} {res : Int32 × px_H} (hS : oS hp) (h : fn_M_takes a1 a2 hp = some res) : px_C nm_T nm_P mi_M_takes [.ref 69, .int a1, .int a2] hp (some (.int res.1)) res.2 ∧ oS res.2 := by
  unfold fn_M_takes at h
  refine py_C (M := mm_M_takes) rfl (Nat.le_of_ble_eq_true rfl) ?_
  show px_Y mm_M_takes 0 [(0, .ref 69), (1, .int a1), (2, .int a2)] [] hp _ _
  refine py_its (pc := 0) (pc1 := 1) (lv1 := [(0, .ref 69), (1, .int a1), (2, .int a2)]) (st1 := [.ref 69]) 1 (fun _ _ _ _ => rfl) ?_
  refine py_g1 79 (pc := 1) (len := 3) (cs := [69]) rfl rfl rfl List.mem_cons_self hS ?_
  refine py_its (pc := 4) (pc1 := 5) (lv1 := [(0, .ref 69), (1, .int a1), (2, .int a2)]) (st1 := [.int a1, .ref 79]) 1 (fun _ _ _ _ => rfl) ?_
  obtain ⟨hi1, h⟩ := cd_n h
  refine py_ai (pc := 5) (len := 1) (cs := [79]) (t := 36) (n := 6) rfl rfl rfl hi1 List.mem_cons_self hS ?_
  refine py_its (pc := 6) (pc1 := 8) (lv1 := [(3, .int (aI hp 79 a1.toNatClampNeg)), (0, .ref 69), (1, .int a1), (2, .int a2)]) (st1 := [.ref 69]) 2 (fun _ _ _ _ => rfl) ?_
  refine py_g1 88 (pc := 8) (len := 3) (cs := [69]) rfl rfl rfl List.mem_cons_self hS ?_
  refine py_its (pc := 11) (pc1 := 13) (lv1 := [(3, .int (aI hp 79 a1.toNatClampNeg)), (0, .ref 69), (1, .int a1), (2, .int a2)]) (st1 := [.int (aI hp 79 a1.toNatClampNeg), .ref 88, .int (aI hp 79 a1.toNatClampNeg), .ref 88]) 2 (fun _ _ _ _ => rfl) ?_
  obtain ⟨hi2, h⟩ := cd_n h
  refine py_ai (pc := 13) (len := 1) (cs := [88]) (t := 45) (n := 2) rfl rfl rfl hi2 List.mem_cons_self hS ?_
  refine py_its (pc := 14) (pc1 := 20) (lv1 := [(3, .int (aI hp 79 a1.toNatClampNeg)), (0, .ref 69), (1, .int a1), (2, .int a2)]) (st1 := [.int ((aI hp 88 (aI hp 79 a1.toNatClampNeg).toNatClampNeg) &&& (((Int32.ofInt 1) <<< (a2 &&& 31)) ^^^ (Int32.ofInt (-1)))), .int (aI hp 79 a1.toNatClampNeg), .ref 88]) 6 (fun _ _ _ _ => rfl) ?_
  obtain ⟨hi3, h⟩ := cd_n h
  have h := sb_e h
  refine py_si (pc := 20) (len := 1) (cs := [88]) (t := 45) (n := 2) rfl rfl rfl hi3 List.mem_cons_self hS ?_
  have hS5 : oS (uI hp 88 (aI hp 79 a1.toNatClampNeg).toNatClampNeg ((aI hp 88 (aI hp 79 a1.toNatClampNeg).toNatClampNeg) &&& (((Int32.ofInt 1) <<< (a2 &&& 31)) ^^^ (Int32.ofInt (-1))))) := oS_uI (cs := [88]) (t := 45) (n := 2) rfl List.mem_cons_self hS
  generalize (uI hp 88 (aI hp 79 a1.toNatClampNeg).toNatClampNeg ((aI hp 88 (aI hp 79 a1.toNatClampNeg).toNatClampNeg) &&& (((Int32.ofInt 1) <<< (a2 &&& 31)) ^^^ (Int32.ofInt (-1))))) = h4 at h hS5 ⊢
  refine py_its (pc := 21) (pc1 := 24) (lv1 := [(3, .int (aI hp 79 a1.toNatClampNeg)), (0, .ref 69), (1, .int a1), (2, .int a2)]) (st1 := [.int a1, .int a2, .ref 69]) 3 (fun _ _ _ _ => rfl) ?_
  obtain ⟨q6, hq7, h⟩ := bd_e h
  have hC8 := (fx_M_isDead hS5 hq7).1
  refine py_vi (pc := 24) (mi := mi_M_isDead) (cs := [69]) (N := mm_M_isDead) rfl rfl rfl rfl List.mem_cons_self hS5 rfl (Nat.le_of_ble_eq_true rfl) (Nat.le_of_ble_eq_true rfl) rfl rfl hC8 ?_
  show px_Y mm_M_takes 27 [(3, .int (aI hp 79 a1.toNatClampNeg)), (0, .ref 69), (1, .int a1), (2, .int a2)] [.int q6] h4 _ _
  cases hb9 : px_cmp .eq q6 0 with
  | true =>
    have h := cd_t hb9 h
    refine py_if (pc := 27) (len := 3) true rfl hb9 ?_
    refine py_its (pc := 32) (pc1 := 35) (lv1 := [(3, .int (aI hp 79 a1.toNatClampNeg)), (0, .ref 69), (1, .int a1), (2, .int a2)]) (st1 := [.int a1, .int a2, .ref 69]) 3 (fun _ _ _ _ => rfl) ?_
    obtain ⟨q10, hq11, h⟩ := bd_e h
    have hC12 := (fx_M_barredBy hS5 hq11).1
    refine py_vi (pc := 35) (mi := mi_M_barredBy) (cs := [69]) (N := mm_M_barredBy) rfl rfl rfl rfl List.mem_cons_self hS5 rfl (Nat.le_of_ble_eq_true rfl) (Nat.le_of_ble_eq_true rfl) rfl rfl hC12 ?_
    show px_Y mm_M_takes 38 [(3, .int (aI hp 79 a1.toNatClampNeg)), (0, .ref 69), (1, .int a1), (2, .int a2)] [.int q10] h4 _ _
    refine py_its (pc := 38) (pc1 := 42) (lv1 := [(4, .int q10), (3, .int (aI hp 79 a1.toNatClampNeg)), (0, .ref 69), (1, .int a1), (2, .int a2)]) (st1 := [.int q10]) 2 (fun _ _ _ _ => rfl) ?_
    cases hb13 : px_cmp .ge q10 0 with
    | true =>
      have h := cd_t hb13 h
      refine py_if (pc := 42) (len := 3) true rfl hb13 ?_
      refine py_its (pc := 68) (pc1 := 69) (lv1 := [(4, .int q10), (3, .int (aI hp 79 a1.toNatClampNeg)), (0, .ref 69), (1, .int a1), (2, .int a2)]) (st1 := [.ref 69]) 1 (fun _ _ _ _ => rfl) ?_
      refine py_g1 84 (pc := 69) (len := 3) (cs := [69]) rfl rfl rfl List.mem_cons_self hS5 ?_
      refine py_its (pc := 72) (pc1 := 75) (lv1 := [(4, .int q10), (3, .int (aI hp 79 a1.toNatClampNeg)), (0, .ref 69), (1, .int a1), (2, .int a2)]) (st1 := [.ref 69, .int (Int8.ofInt 7).toInt32, .ref 84]) 2 (fun _ _ _ _ => rfl) ?_
      refine py_gI (pc := 75) (len := 3) (cs := [69]) rfl rfl rfl List.mem_cons_self hS5 ?_
      refine py_its (pc := 78) (pc1 := 82) (lv1 := [(4, .int q10), (3, .int (aI hp 79 a1.toNatClampNeg)), (0, .ref 69), (1, .int a1), (2, .int a2)]) (st1 := [.int (((Int8.ofInt 7).toInt32 * (gI h4 69 15)) + q10), .ref 84]) 3 (fun _ _ _ _ => rfl) ?_
      obtain ⟨hi14, h⟩ := cd_n h
      refine py_ai (pc := 82) (len := 1) (cs := [84]) (t := 41) (n := 28) rfl rfl rfl hi14 List.mem_cons_self hS5 ?_
      refine py_its (pc := 83) (pc1 := 87) (lv1 := [(5, .int (aI h4 84 (((Int8.ofInt 7).toInt32 * (gI h4 69 15)) + q10).toNatClampNeg)), (4, .int q10), (3, .int (aI hp 79 a1.toNatClampNeg)), (0, .ref 69), (1, .int a1), (2, .int a2)]) (st1 := [.ref 69, .ref 69]) 3 (fun _ _ _ _ => rfl) ?_
      refine py_gI (pc := 87) (len := 3) (cs := [69]) rfl rfl rfl List.mem_cons_self hS5 ?_
      refine py_its (pc := 90) (pc1 := 92) (lv1 := [(5, .int (aI h4 84 (((Int8.ofInt 7).toInt32 * (gI h4 69 15)) + q10).toNatClampNeg)), (4, .int q10), (3, .int (aI hp 79 a1.toNatClampNeg)), (0, .ref 69), (1, .int a1), (2, .int a2)]) (st1 := [.int (aI h4 84 (((Int8.ofInt 7).toInt32 * (gI h4 69 15)) + q10).toNatClampNeg), .int (gI h4 69 32), .ref 69]) 1 (fun _ _ _ _ => rfl) ?_
      cases hb15 : px_cmp .ne (aI h4 84 (((Int8.ofInt 7).toInt32 * (gI h4 69 15)) + q10).toNatClampNeg) 0 with
      | true =>
        have h := cd_t hb15 h
        refine py_if (pc := 92) (len := 3) true rfl hb15 ?_
        refine py_its (pc := 101) (pc1 := 103) (lv1 := [(5, .int (aI h4 84 (((Int8.ofInt 7).toInt32 * (gI h4 69 15)) + q10).toNatClampNeg)), (4, .int q10), (3, .int (aI hp 79 a1.toNatClampNeg)), (0, .ref 69), (1, .int a1), (2, .int a2)]) (st1 := [.int ((gI h4 69 32) ||| (Int32.ofInt 0)), .ref 69]) 2 (fun _ _ _ _ => rfl) ?_
        have h := sb_e h
        refine py_pI (pc := 103) (len := 3) (cs := [69]) rfl rfl rfl List.mem_cons_self hS5 rfl rfl rfl rfl ?_
        have hS17 : oS (wF h4 69 32 (.int ((gI h4 69 32) ||| (Int32.ofInt 0)))) := oS_wI (cs := [69]) (ci := 9) rfl List.mem_cons_self hS5
        generalize (wF h4 69 32 (.int ((gI h4 69 32) ||| (Int32.ofInt 0)))) = h16 at h hS17 ⊢
        refine py_its (pc := 106) (pc1 := 107) (lv1 := [(5, .int (aI h4 84 (((Int8.ofInt 7).toInt32 * (gI h4 69 15)) + q10).toNatClampNeg)), (4, .int q10), (3, .int (aI hp 79 a1.toNatClampNeg)), (0, .ref 69), (1, .int a1), (2, .int a2)]) (st1 := [.ref 69]) 1 (fun _ _ _ _ => rfl) ?_
        refine py_g1 89 (pc := 107) (len := 3) (cs := [69]) rfl rfl rfl List.mem_cons_self hS17 ?_
        refine py_its (pc := 110) (pc1 := 112) (lv1 := [(5, .int (aI h4 84 (((Int8.ofInt 7).toInt32 * (gI h4 69 15)) + q10).toNatClampNeg)), (4, .int q10), (3, .int (aI hp 79 a1.toNatClampNeg)), (0, .ref 69), (1, .int a1), (2, .int a2)]) (st1 := [.int (aI hp 79 a1.toNatClampNeg), .ref 89, .int (aI hp 79 a1.toNatClampNeg), .ref 89]) 2 (fun _ _ _ _ => rfl) ?_
        obtain ⟨hi18, h⟩ := cd_n h
        refine py_ai (pc := 112) (len := 1) (cs := [89]) (t := 46) (n := 2) rfl rfl rfl hi18 List.mem_cons_self hS17 ?_
        refine py_its (pc := 113) (pc1 := 116) (lv1 := [(5, .int (aI h4 84 (((Int8.ofInt 7).toInt32 * (gI h4 69 15)) + q10).toNatClampNeg)), (4, .int q10), (3, .int (aI hp 79 a1.toNatClampNeg)), (0, .ref 69), (1, .int a1), (2, .int a2)]) (st1 := [.int (Int32.ofInt 2), .int (aI h4 84 (((Int8.ofInt 7).toInt32 * (gI h4 69 15)) + q10).toNatClampNeg), .int (aI h16 89 (aI hp 79 a1.toNatClampNeg).toNatClampNeg), .int (aI hp 79 a1.toNatClampNeg), .ref 89]) 2 (fun _ _ _ _ => rfl) ?_
        cases hb19 : px_cmp .ne (aI h4 84 (((Int8.ofInt 7).toInt32 * (gI h4 69 15)) + q10).toNatClampNeg) (Int32.ofInt 2) with
        | true =>
          have h := cd_t hb19 h
          refine py_ic (pc := 116) (len := 3) true rfl hb19 ?_
          refine py_its (pc := 125) (pc1 := 127) (lv1 := [(5, .int (aI h4 84 (((Int8.ofInt 7).toInt32 * (gI h4 69 15)) + q10).toNatClampNeg)), (4, .int q10), (3, .int (aI hp 79 a1.toNatClampNeg)), (0, .ref 69), (1, .int a1), (2, .int a2)]) (st1 := [.int ((aI h16 89 (aI hp 79 a1.toNatClampNeg).toNatClampNeg) ||| (Int32.ofInt 0)), .int (aI hp 79 a1.toNatClampNeg), .ref 89]) 2 (fun _ _ _ _ => rfl) ?_
          obtain ⟨hi20, h⟩ := cd_n h
          have h := sb_e h
          refine py_si (pc := 127) (len := 1) (cs := [89]) (t := 46) (n := 2) rfl rfl rfl hi20 List.mem_cons_self hS17 ?_
          have hS22 : oS (uI h16 89 (aI hp 79 a1.toNatClampNeg).toNatClampNeg ((aI h16 89 (aI hp 79 a1.toNatClampNeg).toNatClampNeg) ||| (Int32.ofInt 0))) := oS_uI (cs := [89]) (t := 46) (n := 2) rfl List.mem_cons_self hS17
          generalize (uI h16 89 (aI hp 79 a1.toNatClampNeg).toNatClampNeg ((aI h16 89 (aI hp 79 a1.toNatClampNeg).toNatClampNeg) ||| (Int32.ofInt 0))) = h21 at h hS22 ⊢
          refine py_its (pc := 128) (pc1 := 129) (lv1 := [(5, .int (aI h4 84 (((Int8.ofInt 7).toInt32 * (gI h4 69 15)) + q10).toNatClampNeg)), (4, .int q10), (3, .int (aI hp 79 a1.toNatClampNeg)), (0, .ref 69), (1, .int a1), (2, .int a2)]) (st1 := [.int (Int32.ofInt 0)]) 1 (fun _ _ _ _ => rfl) ?_
          have h := Option.some.inj h
          subst h
          exact py_ir (pc := 129) (len := 1) (ty := .boolean) rfl rfl (by decide) hS22
        | false =>
          have h := cd_f hb19 h
          refine py_ic (pc := 116) (len := 3) false rfl hb19 ?_
          refine py_its (pc := 119) (pc1 := 127) (lv1 := [(5, .int (aI h4 84 (((Int8.ofInt 7).toInt32 * (gI h4 69 15)) + q10).toNatClampNeg)), (4, .int q10), (3, .int (aI hp 79 a1.toNatClampNeg)), (0, .ref 69), (1, .int a1), (2, .int a2)]) (st1 := [.int ((aI h16 89 (aI hp 79 a1.toNatClampNeg).toNatClampNeg) ||| ((Int32.ofInt 1) <<< (a2 &&& 31))), .int (aI hp 79 a1.toNatClampNeg), .ref 89]) 5 (fun _ _ _ _ => rfl) ?_
          obtain ⟨hi23, h⟩ := cd_n h
          have h := sb_e h
          refine py_si (pc := 127) (len := 1) (cs := [89]) (t := 46) (n := 2) rfl rfl rfl hi23 List.mem_cons_self hS17 ?_
          have hS25 : oS (uI h16 89 (aI hp 79 a1.toNatClampNeg).toNatClampNeg ((aI h16 89 (aI hp 79 a1.toNatClampNeg).toNatClampNeg) ||| ((Int32.ofInt 1) <<< (a2 &&& 31)))) := oS_uI (cs := [89]) (t := 46) (n := 2) rfl List.mem_cons_self hS17
          generalize (uI h16 89 (aI hp 79 a1.toNatClampNeg).toNatClampNeg ((aI h16 89 (aI hp 79 a1.toNatClampNeg).toNatClampNeg) ||| ((Int32.ofInt 1) <<< (a2 &&& 31)))) = h24 at h hS25 ⊢
          refine py_its (pc := 128) (pc1 := 129) (lv1 := [(5, .int (aI h4 84 (((Int8.ofInt 7).toInt32 * (gI h4 69 15)) + q10).toNatClampNeg)), (4, .int q10), (3, .int (aI hp 79 a1.toNatClampNeg)), (0, .ref 69), (1, .int a1), (2, .int a2)]) (st1 := [.int (Int32.ofInt 0)]) 1 (fun _ _ _ _ => rfl) ?_
          have h := Option.some.inj h
          subst h
          exact py_ir (pc := 129) (len := 1) (ty := .boolean) rfl rfl (by decide) hS25
      | false =>
        have h := cd_f hb15 h
        refine py_if (pc := 92) (len := 3) false rfl hb15 ?_
        refine py_its (pc := 95) (pc1 := 103) (lv1 := [(5, .int (aI h4 84 (((Int8.ofInt 7).toInt32 * (gI h4 69 15)) + q10).toNatClampNeg)), (4, .int q10), (3, .int (aI hp 79 a1.toNatClampNeg)), (0, .ref 69), (1, .int a1), (2, .int a2)]) (st1 := [.int ((gI h4 69 32) ||| ((Int32.ofInt 1) <<< (a2 &&& 31))), .ref 69]) 5 (fun _ _ _ _ => rfl) ?_
        have h := sb_e h
        refine py_pI (pc := 103) (len := 3) (cs := [69]) rfl rfl rfl List.mem_cons_self hS5 rfl rfl rfl rfl ?_
        have hS27 : oS (wF h4 69 32 (.int ((gI h4 69 32) ||| ((Int32.ofInt 1) <<< (a2 &&& 31))))) := oS_wI (cs := [69]) (ci := 9) rfl List.mem_cons_self hS5
        generalize (wF h4 69 32 (.int ((gI h4 69 32) ||| ((Int32.ofInt 1) <<< (a2 &&& 31))))) = h26 at h hS27 ⊢
        refine py_its (pc := 106) (pc1 := 107) (lv1 := [(5, .int (aI h4 84 (((Int8.ofInt 7).toInt32 * (gI h4 69 15)) + q10).toNatClampNeg)), (4, .int q10), (3, .int (aI hp 79 a1.toNatClampNeg)), (0, .ref 69), (1, .int a1), (2, .int a2)]) (st1 := [.ref 69]) 1 (fun _ _ _ _ => rfl) ?_
        refine py_g1 89 (pc := 107) (len := 3) (cs := [69]) rfl rfl rfl List.mem_cons_self hS27 ?_
        refine py_its (pc := 110) (pc1 := 112) (lv1 := [(5, .int (aI h4 84 (((Int8.ofInt 7).toInt32 * (gI h4 69 15)) + q10).toNatClampNeg)), (4, .int q10), (3, .int (aI hp 79 a1.toNatClampNeg)), (0, .ref 69), (1, .int a1), (2, .int a2)]) (st1 := [.int (aI hp 79 a1.toNatClampNeg), .ref 89, .int (aI hp 79 a1.toNatClampNeg), .ref 89]) 2 (fun _ _ _ _ => rfl) ?_
        obtain ⟨hi28, h⟩ := cd_n h
        refine py_ai (pc := 112) (len := 1) (cs := [89]) (t := 46) (n := 2) rfl rfl rfl hi28 List.mem_cons_self hS27 ?_
        refine py_its (pc := 113) (pc1 := 116) (lv1 := [(5, .int (aI h4 84 (((Int8.ofInt 7).toInt32 * (gI h4 69 15)) + q10).toNatClampNeg)), (4, .int q10), (3, .int (aI hp 79 a1.toNatClampNeg)), (0, .ref 69), (1, .int a1), (2, .int a2)]) (st1 := [.int (Int32.ofInt 2), .int (aI h4 84 (((Int8.ofInt 7).toInt32 * (gI h4 69 15)) + q10).toNatClampNeg), .int (aI h26 89 (aI hp 79 a1.toNatClampNeg).toNatClampNeg), .int (aI hp 79 a1.toNatClampNeg), .ref 89]) 2 (fun _ _ _ _ => rfl) ?_
        cases hb29 : px_cmp .ne (aI h4 84 (((Int8.ofInt 7).toInt32 * (gI h4 69 15)) + q10).toNatClampNeg) (Int32.ofInt 2) with
        | true =>
          have h := cd_t hb29 h
          refine py_ic (pc := 116) (len := 3) true rfl hb29 ?_
          refine py_its (pc := 125) (pc1 := 127) (lv1 := [(5, .int (aI h4 84 (((Int8.ofInt 7).toInt32 * (gI h4 69 15)) + q10).toNatClampNeg)), (4, .int q10), (3, .int (aI hp 79 a1.toNatClampNeg)), (0, .ref 69), (1, .int a1), (2, .int a2)]) (st1 := [.int ((aI h26 89 (aI hp 79 a1.toNatClampNeg).toNatClampNeg) ||| (Int32.ofInt 0)), .int (aI hp 79 a1.toNatClampNeg), .ref 89]) 2 (fun _ _ _ _ => rfl) ?_
          obtain ⟨hi30, h⟩ := cd_n h
          have h := sb_e h
          refine py_si (pc := 127) (len := 1) (cs := [89]) (t := 46) (n := 2) rfl rfl rfl hi30 List.mem_cons_self hS27 ?_
          have hS32 : oS (uI h26 89 (aI hp 79 a1.toNatClampNeg).toNatClampNeg ((aI h26 89 (aI hp 79 a1.toNatClampNeg).toNatClampNeg) ||| (Int32.ofInt 0))) := oS_uI (cs := [89]) (t := 46) (n := 2) rfl List.mem_cons_self hS27
          generalize (uI h26 89 (aI hp 79 a1.toNatClampNeg).toNatClampNeg ((aI h26 89 (aI hp 79 a1.toNatClampNeg).toNatClampNeg) ||| (Int32.ofInt 0))) = h31 at h hS32 ⊢
          refine py_its (pc := 128) (pc1 := 129) (lv1 := [(5, .int (aI h4 84 (((Int8.ofInt 7).toInt32 * (gI h4 69 15)) + q10).toNatClampNeg)), (4, .int q10), (3, .int (aI hp 79 a1.toNatClampNeg)), (0, .ref 69), (1, .int a1), (2, .int a2)]) (st1 := [.int (Int32.ofInt 0)]) 1 (fun _ _ _ _ => rfl) ?_
          have h := Option.some.inj h
          subst h
          exact py_ir (pc := 129) (len := 1) (ty := .boolean) rfl rfl (by decide) hS32
        | false =>
          have h := cd_f hb29 h
          refine py_ic (pc := 116) (len := 3) false rfl hb29 ?_
          refine py_its (pc := 119) (pc1 := 127) (lv1 := [(5, .int (aI h4 84 (((Int8.ofInt 7).toInt32 * (gI h4 69 15)) + q10).toNatClampNeg)), (4, .int q10), (3, .int (aI hp 79 a1.toNatClampNeg)), (0, .ref 69), (1, .int a1), (2, .int a2)]) (st1 := [.int ((aI h26 89 (aI hp 79 a1.toNatClampNeg).toNatClampNeg) ||| ((Int32.ofInt 1) <<< (a2 &&& 31))), .int (aI hp 79 a1.toNatClampNeg), .ref 89]) 5 (fun _ _ _ _ => rfl) ?_
          obtain ⟨hi33, h⟩ := cd_n h
          have h := sb_e h
          refine py_si (pc := 127) (len := 1) (cs := [89]) (t := 46) (n := 2) rfl rfl rfl hi33 List.mem_cons_self hS27 ?_
          have hS35 : oS (uI h26 89 (aI hp 79 a1.toNatClampNeg).toNatClampNeg ((aI h26 89 (aI hp 79 a1.toNatClampNeg).toNatClampNeg) ||| ((Int32.ofInt 1) <<< (a2 &&& 31)))) := oS_uI (cs := [89]) (t := 46) (n := 2) rfl List.mem_cons_self hS27
          generalize (uI h26 89 (aI hp 79 a1.toNatClampNeg).toNatClampNeg ((aI h26 89 (aI hp 79 a1.toNatClampNeg).toNatClampNeg) ||| ((Int32.ofInt 1) <<< (a2 &&& 31)))) = h34 at h hS35 ⊢
          refine py_its (pc := 128) (pc1 := 129) (lv1 := [(5, .int (aI h4 84 (((Int8.ofInt 7).toInt32 * (gI h4 69 15)) + q10).toNatClampNeg)), (4, .int q10), (3, .int (aI hp 79 a1.toNatClampNeg)), (0, .ref 69), (1, .int a1), (2, .int a2)]) (st1 := [.int (Int32.ofInt 0)]) 1 (fun _ _ _ _ => rfl) ?_
          have h := Option.some.inj h
          subst h
          exact py_ir (pc := 129) (len := 1) (ty := .boolean) rfl rfl (by decide) hS35
    | false =>
      have h := cd_f hb13 h
      refine py_if (pc := 42) (len := 3) false rfl hb13 ?_
      refine py_its (pc := 45) (pc1 := 47) (lv1 := [(4, .int q10), (3, .int (aI hp 79 a1.toNatClampNeg)), (0, .ref 69), (1, .int a1), (2, .int a2)]) (st1 := [.ref 69, .ref 69]) 2 (fun _ _ _ _ => rfl) ?_
      refine py_gI (pc := 47) (len := 3) (cs := [69]) rfl rfl rfl List.mem_cons_self hS5 ?_
      refine py_its (pc := 50) (pc1 := 54) (lv1 := [(4, .int q10), (3, .int (aI hp 79 a1.toNatClampNeg)), (0, .ref 69), (1, .int a1), (2, .int a2)]) (st1 := [.int ((gI h4 69 33) ||| ((Int32.ofInt 1) <<< (a2 &&& 31))), .ref 69]) 4 (fun _ _ _ _ => rfl) ?_
      have h := sb_e h
      refine py_pI (pc := 54) (len := 3) (cs := [69]) rfl rfl rfl List.mem_cons_self hS5 rfl rfl rfl rfl ?_
      have hS37 : oS (wF h4 69 33 (.int ((gI h4 69 33) ||| ((Int32.ofInt 1) <<< (a2 &&& 31))))) := oS_wI (cs := [69]) (ci := 9) rfl List.mem_cons_self hS5
      generalize (wF h4 69 33 (.int ((gI h4 69 33) ||| ((Int32.ofInt 1) <<< (a2 &&& 31))))) = h36 at h hS37 ⊢
      refine py_its (pc := 57) (pc1 := 58) (lv1 := [(4, .int q10), (3, .int (aI hp 79 a1.toNatClampNeg)), (0, .ref 69), (1, .int a1), (2, .int a2)]) (st1 := [.ref 69]) 1 (fun _ _ _ _ => rfl) ?_
      refine py_g1 90 (pc := 58) (len := 3) (cs := [69]) rfl rfl rfl List.mem_cons_self hS37 ?_
      refine py_its (pc := 61) (pc1 := 65) (lv1 := [(4, .int q10), (3, .int (aI hp 79 a1.toNatClampNeg)), (0, .ref 69), (1, .int a1), (2, .int a2)]) (st1 := [.int (a1 + (Int32.ofInt 1)), .int a2, .ref 90]) 4 (fun _ _ _ _ => rfl) ?_
      obtain ⟨hi38, h⟩ := cd_n h
      have h := sb_e h
      refine py_si (pc := 65) (len := 1) (cs := [90]) (t := 47) (n := 10) rfl rfl rfl hi38 List.mem_cons_self hS37 ?_
      have hS40 : oS (uI h36 90 a2.toNatClampNeg (a1 + (Int32.ofInt 1))) := oS_uI (cs := [90]) (t := 47) (n := 10) rfl List.mem_cons_self hS37
      generalize (uI h36 90 a2.toNatClampNeg (a1 + (Int32.ofInt 1))) = h39 at h hS40 ⊢
      refine py_its (pc := 66) (pc1 := 67) (lv1 := [(4, .int q10), (3, .int (aI hp 79 a1.toNatClampNeg)), (0, .ref 69), (1, .int a1), (2, .int a2)]) (st1 := [.int (Int32.ofInt 1)]) 1 (fun _ _ _ _ => rfl) ?_
      have h := Option.some.inj h
      subst h
      exact py_ir (pc := 67) (len := 1) (ty := .boolean) rfl rfl (by decide) hS40
  | false =>
    have h := cd_f hb9 h
    refine py_if (pc := 27) (len := 3) false rfl hb9 ?_
    refine py_its (pc := 30) (pc1 := 31) (lv1 := [(3, .int (aI hp 79 a1.toNatClampNeg)), (0, .ref 69), (1, .int a1), (2, .int a2)]) (st1 := [.int (Int32.ofInt 0)]) 1 (fun _ _ _ _ => rfl) ?_
    have h := Option.some.inj h
    subst h
    exact py_ir (pc := 31) (len := 1) (ty := .boolean) rfl rfl (by decide) hS5
/-! M_closes -/
noncomputable def fn_M_closes (a1 : Int32) (hp : px_H) : Option (px_H) :=
  bif px_inR a1 6 then
  bif px_inR (aI hp 79 a1.toNatClampNeg) 2 then
  bif px_inR (aI hp 79 a1.toNatClampNeg) 2 then
  sb (uI hp 88 (aI hp 79 a1.toNatClampNeg).toNatClampNeg ((aI hp 88 (aI hp 79 a1.toNatClampNeg).toNatClampNeg) ||| (gI hp 69 32))) fun h4 =>
  sb (wF h4 69 32 (.int (Int32.ofInt 0))) fun h6 =>
  sb (wF h6 69 33 (.int (Int32.ofInt 0))) fun h8 =>
  sb (wF h8 69 31 (.int (a1 + (Int32.ofInt 1)))) fun h10 =>
  some h10
  else none
  else none
  else none
theorem fx_M_closes {a1 : Int32} {hp : px_H} {res : px_H} (hS : oS hp) (h : fn_M_closes a1 hp = some res) : px_C nm_T nm_P mi_M_closes [.ref 69, .int a1] hp none res ∧ oS res := by
  unfold fn_M_closes at h
  refine py_C (M := mm_M_closes) rfl (Nat.le_of_ble_eq_true rfl) ?_
  show px_Y mm_M_closes 0 [(0, .ref 69), (1, .int a1)] [] hp _ _
  refine py_its (pc := 0) (pc1 := 1) (lv1 := [(0, .ref 69), (1, .int a1)]) (st1 := [.ref 69]) 1 (fun _ _ _ _ => rfl) ?_
  refine py_g1 88 (pc := 1) (len := 3) (cs := [69]) rfl rfl rfl List.mem_cons_self hS ?_
  refine py_its (pc := 4) (pc1 := 5) (lv1 := [(0, .ref 69), (1, .int a1)]) (st1 := [.ref 69, .ref 88]) 1 (fun _ _ _ _ => rfl) ?_
  refine py_g1 79 (pc := 5) (len := 3) (cs := [69]) rfl rfl rfl List.mem_cons_self hS ?_
  refine py_its (pc := 8) (pc1 := 9) (lv1 := [(0, .ref 69), (1, .int a1)]) (st1 := [.int a1, .ref 79, .ref 88]) 1 (fun _ _ _ _ => rfl) ?_
  obtain ⟨hi1, h⟩ := cd_n h
  refine py_ai (pc := 9) (len := 1) (cs := [79]) (t := 36) (n := 6) rfl rfl rfl hi1 List.mem_cons_self hS ?_
  refine py_its (pc := 10) (pc1 := 11) (lv1 := [(0, .ref 69), (1, .int a1)]) (st1 := [.int (aI hp 79 a1.toNatClampNeg), .ref 88, .int (aI hp 79 a1.toNatClampNeg), .ref 88]) 1 (fun _ _ _ _ => rfl) ?_
  obtain ⟨hi2, h⟩ := cd_n h
  refine py_ai (pc := 11) (len := 1) (cs := [88]) (t := 45) (n := 2) rfl rfl rfl hi2 List.mem_cons_self hS ?_
  refine py_its (pc := 12) (pc1 := 13) (lv1 := [(0, .ref 69), (1, .int a1)]) (st1 := [.ref 69, .int (aI hp 88 (aI hp 79 a1.toNatClampNeg).toNatClampNeg), .int (aI hp 79 a1.toNatClampNeg), .ref 88]) 1 (fun _ _ _ _ => rfl) ?_
  refine py_gI (pc := 13) (len := 3) (cs := [69]) rfl rfl rfl List.mem_cons_self hS ?_
  refine py_its (pc := 16) (pc1 := 17) (lv1 := [(0, .ref 69), (1, .int a1)]) (st1 := [.int ((aI hp 88 (aI hp 79 a1.toNatClampNeg).toNatClampNeg) ||| (gI hp 69 32)), .int (aI hp 79 a1.toNatClampNeg), .ref 88]) 1 (fun _ _ _ _ => rfl) ?_
  obtain ⟨hi3, h⟩ := cd_n h
  have h := sb_e h
  refine py_si (pc := 17) (len := 1) (cs := [88]) (t := 45) (n := 2) rfl rfl rfl hi3 List.mem_cons_self hS ?_
  have hS5 : oS (uI hp 88 (aI hp 79 a1.toNatClampNeg).toNatClampNeg ((aI hp 88 (aI hp 79 a1.toNatClampNeg).toNatClampNeg) ||| (gI hp 69 32))) := oS_uI (cs := [88]) (t := 45) (n := 2) rfl List.mem_cons_self hS
  generalize (uI hp 88 (aI hp 79 a1.toNatClampNeg).toNatClampNeg ((aI hp 88 (aI hp 79 a1.toNatClampNeg).toNatClampNeg) ||| (gI hp 69 32))) = h4 at h hS5 ⊢
  refine py_its (pc := 18) (pc1 := 20) (lv1 := [(0, .ref 69), (1, .int a1)]) (st1 := [.int (Int32.ofInt 0), .ref 69]) 2 (fun _ _ _ _ => rfl) ?_
  have h := sb_e h
  refine py_pI (pc := 20) (len := 3) (cs := [69]) rfl rfl rfl List.mem_cons_self hS5 rfl rfl rfl rfl ?_
  have hS7 : oS (wF h4 69 32 (.int (Int32.ofInt 0))) := oS_wI (cs := [69]) (ci := 9) rfl List.mem_cons_self hS5
  generalize (wF h4 69 32 (.int (Int32.ofInt 0))) = h6 at h hS7 ⊢
  refine py_its (pc := 23) (pc1 := 25) (lv1 := [(0, .ref 69), (1, .int a1)]) (st1 := [.int (Int32.ofInt 0), .ref 69]) 2 (fun _ _ _ _ => rfl) ?_
  have h := sb_e h
  refine py_pI (pc := 25) (len := 3) (cs := [69]) rfl rfl rfl List.mem_cons_self hS7 rfl rfl rfl rfl ?_
  have hS9 : oS (wF h6 69 33 (.int (Int32.ofInt 0))) := oS_wI (cs := [69]) (ci := 9) rfl List.mem_cons_self hS7
  generalize (wF h6 69 33 (.int (Int32.ofInt 0))) = h8 at h hS9 ⊢
  refine py_its (pc := 28) (pc1 := 32) (lv1 := [(0, .ref 69), (1, .int a1)]) (st1 := [.int (a1 + (Int32.ofInt 1)), .ref 69]) 4 (fun _ _ _ _ => rfl) ?_
  have h := sb_e h
  refine py_pI (pc := 32) (len := 3) (cs := [69]) rfl rfl rfl List.mem_cons_self hS9 rfl rfl rfl rfl ?_
  have hS11 : oS (wF h8 69 31 (.int (a1 + (Int32.ofInt 1)))) := oS_wI (cs := [69]) (ci := 9) rfl List.mem_cons_self hS9
  generalize (wF h8 69 31 (.int (a1 + (Int32.ofInt 1)))) = h10 at h hS11 ⊢
  have h := Option.some.inj h
  subst h
  exact py_rt (pc := 35) (len := 1) rfl rfl hS11
/-! M_enters -/
noncomputable def fn_M_enters (a1 : Int64) (hp : px_H) : Option (px_H) :=
  bif px_inR (gI hp 69 1) 64 then
  sb (uL hp 70 (gI hp 69 1).toNatClampNeg a1) fun h2 =>
  sb (wF h2 69 1 (.int ((gI h2 69 1) + (Int32.ofInt 1)))) fun h4 =>
  some h4
  else none
theorem fx_M_enters {a1 : Int64} {hp : px_H} {res : px_H} (hS : oS hp) (h : fn_M_enters a1 hp = some res) : px_C nm_T nm_P mi_M_enters [.ref 69, .long a1] hp none res ∧ oS res := by
  unfold fn_M_enters at h
  refine py_C (M := mm_M_enters) rfl (Nat.le_of_ble_eq_true rfl) ?_
  show px_Y mm_M_enters 0 [(0, .ref 69), (1, .long a1)] [] hp _ _
  refine py_its (pc := 0) (pc1 := 1) (lv1 := [(0, .ref 69), (1, .long a1)]) (st1 := [.ref 69]) 1 (fun _ _ _ _ => rfl) ?_
  refine py_g1 70 (pc := 1) (len := 3) (cs := [69]) rfl rfl rfl List.mem_cons_self hS ?_
  refine py_its (pc := 4) (pc1 := 5) (lv1 := [(0, .ref 69), (1, .long a1)]) (st1 := [.ref 69, .ref 70]) 1 (fun _ _ _ _ => rfl) ?_
  refine py_gI (pc := 5) (len := 3) (cs := [69]) rfl rfl rfl List.mem_cons_self hS ?_
  refine py_its (pc := 8) (pc1 := 9) (lv1 := [(0, .ref 69), (1, .long a1)]) (st1 := [.long a1, .int (gI hp 69 1), .ref 70]) 1 (fun _ _ _ _ => rfl) ?_
  obtain ⟨hi1, h⟩ := cd_n h
  have h := sb_e h
  refine py_sl (pc := 9) (len := 1) (cs := [70]) (t := 27) (n := 64) rfl rfl rfl hi1 List.mem_cons_self hS ?_
  have hS3 : oS (uL hp 70 (gI hp 69 1).toNatClampNeg a1) := oS_uL (cs := [70]) (t := 27) (n := 64) rfl List.mem_cons_self hS
  generalize (uL hp 70 (gI hp 69 1).toNatClampNeg a1) = h2 at h hS3 ⊢
  refine py_its (pc := 10) (pc1 := 12) (lv1 := [(0, .ref 69), (1, .long a1)]) (st1 := [.ref 69, .ref 69]) 2 (fun _ _ _ _ => rfl) ?_
  refine py_gI (pc := 12) (len := 3) (cs := [69]) rfl rfl rfl List.mem_cons_self hS3 ?_
  refine py_its (pc := 15) (pc1 := 17) (lv1 := [(0, .ref 69), (1, .long a1)]) (st1 := [.int ((gI h2 69 1) + (Int32.ofInt 1)), .ref 69]) 2 (fun _ _ _ _ => rfl) ?_
  have h := sb_e h
  refine py_pI (pc := 17) (len := 3) (cs := [69]) rfl rfl rfl List.mem_cons_self hS3 rfl rfl rfl rfl ?_
  have hS5 : oS (wF h2 69 1 (.int ((gI h2 69 1) + (Int32.ofInt 1)))) := oS_wI (cs := [69]) (ci := 9) rfl List.mem_cons_self hS3
  generalize (wF h2 69 1 (.int ((gI h2 69 1) + (Int32.ofInt 1)))) = h4 at h hS5 ⊢
  have h := Option.some.inj h
  subst h
  exact py_rt (pc := 20) (len := 1) rfl rfl hS5
/-! M_run -/
noncomputable def fb_M_run_L144 (v2 : Int32) (v3 : Int32) (rc : Int32 → px_H → Option (Int32 × px_H)) (v4 : Int32) (hp : px_H) : Option (Int32 × px_H) :=
  bif px_cmp .ge v4 v3 then
    some (v2, hp)
  else
    bif px_inR v4 10 then
    (fn_M_enters (aI hp 92 v4.toNatClampNeg).toInt64 hp).bind fun q60 =>
    rc (v4 + Int32.ofInt 1) q60
    else none
noncomputable def fn_M_run_L144 (v2 : Int32) (v3 : Int32) : Nat → Int32 → px_H → Option (Int32 × px_H)
  | 0 => fun _ _ => none
  | n + 1 => fb_M_run_L144 v2 v3 (fn_M_run_L144 v2 v3 n)
theorem fl_M_run_L144 {v2 : Int32} {v3 : Int32}  : ∀ (n : Nat) (v4 : Int32) (hp : px_H) (lv : List (Nat × Value)) (res : Int32 × px_H), oS hp → lk lv [(0, .ref 69), (2, .int v2), (3, .int v3), (4, .int v4)] → fn_M_run_L144 v2 v3 n v4 hp = some res → px_Y mm_M_run 144 lv [] hp (some (.int res.1)) res.2 := by
  intro n
  induction n with
  | zero =>
    intro v4 hp lv res hS hk h
    cases h
  | succ n ih =>
    intro v4 hp lv res hS hk h
    have h : fb_M_run_L144 v2 v3 (fn_M_run_L144 v2 v3 n) v4 hp = some res := h
    unfold fb_M_run_L144 at h
    refine py_il (pc := 144) (len := 2) (j := 4) rfl hk rfl ?_
    refine py_iln (pc := 146) (len := 1) (j := 3) rfl hk rfl ?_
    cases hb58 : px_cmp .ge v4 v3 with
    | true =>
      have h := cd_t hb58 h
      refine py_ic (pc := 147) (len := 3) true rfl hb58 ?_
      refine py_iln (pc := 168) (len := 1) (j := 2) rfl hk rfl ?_
      have h := Option.some.inj h
      subst h
      exact py_ir (pc := 169) (len := 1) (ty := .int) rfl rfl rfl hS
    | false =>
      have h := cd_f hb58 h
      refine py_ic (pc := 147) (len := 3) false rfl hb58 ?_
      refine py_aln (pc := 150) (len := 1) (j := 0) rfl hk rfl ?_
      refine py_aln (pc := 151) (len := 1) (j := 0) rfl hk rfl ?_
      refine py_g1 92 (pc := 152) (len := 3) (cs := [69]) rfl rfl rfl List.mem_cons_self hS ?_
      refine py_il (pc := 155) (len := 2) (j := 4) rfl hk rfl ?_
      obtain ⟨hi59, h⟩ := cd_n h
      refine py_ai (pc := 157) (len := 1) (cs := [92]) (t := 49) (n := 10) rfl rfl rfl hi59 List.mem_cons_self hS ?_
      refine py_its (pc := 158) (pc1 := 159) (lv1 := lv) (st1 := [.long (aI hp 92 v4.toNatClampNeg).toInt64, .ref 69]) 1 (fun _ _ _ _ => rfl) ?_
      obtain ⟨q60, hq61, h⟩ := bd_e h
      obtain ⟨hC62, hS63⟩ := fx_M_enters hS hq61
      refine py_vi (pc := 159) (mi := mi_M_enters) (cs := [69]) (N := mm_M_enters) rfl rfl rfl rfl List.mem_cons_self hS rfl (Nat.le_of_ble_eq_true rfl) (Nat.le_of_ble_eq_true rfl) rfl rfl hC62 ?_
      show px_Y mm_M_run 162 lv [] q60 _ _
      refine py_inc (pc := 162) (len := 3) (j := 4) (n := 1) rfl rfl hk rfl (fun lv64 hk65 => ?_)
      have hk65 : lk lv64 [(4, .int (v4 + Int32.ofInt 1)), (0, .ref 69), (2, .int v2), (3, .int v3)] := hk65
      refine py_its (pc := 165) (pc1 := 144) (lv1 := lv64) (st1 := []) 1 (fun _ _ _ _ => rfl) ?_
      exact ih (v4 + Int32.ofInt 1) q60 lv64 _ hS63 ⟨lk_find hk65 rfl, lk_find hk65 rfl, lk_find hk65 rfl, lk_find hk65 rfl, trivial⟩ h
noncomputable def fb_M_run_L117 (v2 : Int32) (v3 : Int32) (rc : Int32 → px_H → Option (Int32 × px_H)) (v4 : Int32) (hp : px_H) : Option (Int32 × px_H) :=
  bif px_cmp .ge v4 v2 then
    fn_M_run_L144 v2 v3 fu (Int32.ofInt 0) hp
  else
    bif px_inR v4 3 then
    (fn_M_enters (aI hp 91 v4.toNatClampNeg).toInt64 hp).bind fun q52 =>
    rc (v4 + Int32.ofInt 1) q52
    else none
noncomputable def fn_M_run_L117 (v2 : Int32) (v3 : Int32) : Nat → Int32 → px_H → Option (Int32 × px_H)
  | 0 => fun _ _ => none
  | n + 1 => fb_M_run_L117 v2 v3 (fn_M_run_L117 v2 v3 n)
theorem fl_M_run_L117 {v2 : Int32} {v3 : Int32}  : ∀ (n : Nat) (v4 : Int32) (hp : px_H) (lv : List (Nat × Value)) (res : Int32 × px_H), oS hp → lk lv [(0, .ref 69), (2, .int v2), (3, .int v3), (4, .int v4)] → fn_M_run_L117 v2 v3 n v4 hp = some res → px_Y mm_M_run 117 lv [] hp (some (.int res.1)) res.2 := by
  intro n
  induction n with
  | zero =>
    intro v4 hp lv res hS hk h
    cases h
  | succ n ih =>
    intro v4 hp lv res hS hk h
    have h : fb_M_run_L117 v2 v3 (fn_M_run_L117 v2 v3 n) v4 hp = some res := h
    unfold fb_M_run_L117 at h
    refine py_il (pc := 117) (len := 2) (j := 4) rfl hk rfl ?_
    refine py_iln (pc := 119) (len := 1) (j := 2) rfl hk rfl ?_
    cases hb48 : px_cmp .ge v4 v2 with
    | true =>
      have h := cd_t hb48 h
      refine py_ic (pc := 120) (len := 3) true rfl hb48 ?_
      refine py_its (pc := 141) (pc1 := 142) (lv1 := lv) (st1 := [.int (Int32.ofInt 0)]) 1 (fun _ _ _ _ => rfl) ?_
      refine py_sti (pc := 142) (len := 2) (j := 4) rfl rfl hk (fun lv49 hk50 => ?_)
      have hk50 : lk lv49 [(4, .int (Int32.ofInt 0)), (0, .ref 69), (2, .int v2), (3, .int v3)] := hk50
      exact fl_M_run_L144 fu (Int32.ofInt 0) hp lv49 _ hS ⟨lk_find hk50 rfl, lk_find hk50 rfl, lk_find hk50 rfl, lk_find hk50 rfl, trivial⟩ h
    | false =>
      have h := cd_f hb48 h
      refine py_ic (pc := 120) (len := 3) false rfl hb48 ?_
      refine py_aln (pc := 123) (len := 1) (j := 0) rfl hk rfl ?_
      refine py_aln (pc := 124) (len := 1) (j := 0) rfl hk rfl ?_
      refine py_g1 91 (pc := 125) (len := 3) (cs := [69]) rfl rfl rfl List.mem_cons_self hS ?_
      refine py_il (pc := 128) (len := 2) (j := 4) rfl hk rfl ?_
      obtain ⟨hi51, h⟩ := cd_n h
      refine py_ai (pc := 130) (len := 1) (cs := [91]) (t := 48) (n := 3) rfl rfl rfl hi51 List.mem_cons_self hS ?_
      refine py_its (pc := 131) (pc1 := 132) (lv1 := lv) (st1 := [.long (aI hp 91 v4.toNatClampNeg).toInt64, .ref 69]) 1 (fun _ _ _ _ => rfl) ?_
      obtain ⟨q52, hq53, h⟩ := bd_e h
      obtain ⟨hC54, hS55⟩ := fx_M_enters hS hq53
      refine py_vi (pc := 132) (mi := mi_M_enters) (cs := [69]) (N := mm_M_enters) rfl rfl rfl rfl List.mem_cons_self hS rfl (Nat.le_of_ble_eq_true rfl) (Nat.le_of_ble_eq_true rfl) rfl rfl hC54 ?_
      show px_Y mm_M_run 135 lv [] q52 _ _
      refine py_inc (pc := 135) (len := 3) (j := 4) (n := 1) rfl rfl hk rfl (fun lv56 hk57 => ?_)
      have hk57 : lk lv56 [(4, .int (v4 + Int32.ofInt 1)), (0, .ref 69), (2, .int v2), (3, .int v3)] := hk57
      refine py_its (pc := 138) (pc1 := 117) (lv1 := lv56) (st1 := []) 1 (fun _ _ _ _ => rfl) ?_
      exact ih (v4 + Int32.ofInt 1) q52 lv56 _ hS55 ⟨lk_find hk57 rfl, lk_find hk57 rfl, lk_find hk57 rfl, lk_find hk57 rfl, trivial⟩ h
noncomputable def fb_M_run_L32 (v1 : Int32) (rc : Int32 → Int32 → px_H → Option (Int32 × px_H)) (v2 : Int32) (v3 : Int32) (hp : px_H) : Option (Int32 × px_H) :=
  (fn_M_isOver v1 hp).bind fun q8 =>
  bif px_cmp .ne q8 0 then
    (fn_M_closes v1 hp).bind fun q12 =>
    sb (wF q12 69 1 (.int (Int32.ofInt 0))) fun h16 =>
    fn_M_run_L117 v2 v3 fu (Int32.ofInt 0) h16
  else
    bif px_inR v1 6 then
    bif px_inR (aI hp 79 v1.toNatClampNeg) 2 then
    (fn_M_draws (nm_bc (aI hp 88 (aI hp 79 v1.toNatClampNeg).toNatClampNeg)) hp).bind fun q24 =>
    (fn_M_nth (aI hp 88 (aI hp 79 v1.toNatClampNeg).toNatClampNeg) q24.1 q24.2).bind fun q28 =>
    bif px_inR v3 10 then
    sb (uI q24.2 92 v3.toNatClampNeg q28) fun h34 =>
    (fn_M_takes v1 q28 h34).bind fun q38 =>
    bif px_cmp .eq q38.1 0 then
      rc v2 (v3 + Int32.ofInt 1) q38.2
    else
      bif px_inR v2 3 then
      sb (uI q38.2 91 v2.toNatClampNeg q28) fun h44 =>
      rc (v2 + Int32.ofInt 1) (v3 + Int32.ofInt 1) h44
      else none
    else none
    else none
    else none
noncomputable def fn_M_run_L32 (v1 : Int32) : Nat → Int32 → Int32 → px_H → Option (Int32 × px_H)
  | 0 => fun _ _ _ => none
  | n + 1 => fb_M_run_L32 v1 (fn_M_run_L32 v1 n)
theorem fl_M_run_L32 {v1 : Int32}  : ∀ (n : Nat) (v2 : Int32) (v3 : Int32) (hp : px_H) (lv : List (Nat × Value)) (res : Int32 × px_H), oS hp → lk lv [(0, .ref 69), (1, .int v1), (2, .int v2), (3, .int v3)] → fn_M_run_L32 v1 n v2 v3 hp = some res → px_Y mm_M_run 32 lv [] hp (some (.int res.1)) res.2 := by
  intro n
  induction n with
  | zero =>
    intro v2 v3 hp lv res hS hk h
    cases h
  | succ n ih =>
    intro v2 v3 hp lv res hS hk h
    have h : fb_M_run_L32 v1 (fn_M_run_L32 v1 n) v2 v3 hp = some res := h
    unfold fb_M_run_L32 at h
    refine py_aln (pc := 32) (len := 1) (j := 0) rfl hk rfl ?_
    refine py_iln (pc := 33) (len := 1) (j := 1) rfl hk rfl ?_
    obtain ⟨q8, hq9, h⟩ := bd_e h
    have hC10 := (fx_M_isOver hS hq9).1
    refine py_vi (pc := 34) (mi := mi_M_isOver) (cs := [69]) (N := mm_M_isOver) rfl rfl rfl rfl List.mem_cons_self hS rfl (Nat.le_of_ble_eq_true rfl) (Nat.le_of_ble_eq_true rfl) rfl rfl hC10 ?_
    show px_Y mm_M_run 37 lv [.int q8] hp _ _
    cases hb11 : px_cmp .ne q8 0 with
    | true =>
      have h := cd_t hb11 h
      refine py_if (pc := 37) (len := 3) true rfl hb11 ?_
      refine py_aln (pc := 104) (len := 1) (j := 0) rfl hk rfl ?_
      refine py_iln (pc := 105) (len := 1) (j := 1) rfl hk rfl ?_
      obtain ⟨q12, hq13, h⟩ := bd_e h
      obtain ⟨hC14, hS15⟩ := fx_M_closes hS hq13
      refine py_vi (pc := 106) (mi := mi_M_closes) (cs := [69]) (N := mm_M_closes) rfl rfl rfl rfl List.mem_cons_self hS rfl (Nat.le_of_ble_eq_true rfl) (Nat.le_of_ble_eq_true rfl) rfl rfl hC14 ?_
      show px_Y mm_M_run 109 lv [] q12 _ _
      refine py_aln (pc := 109) (len := 1) (j := 0) rfl hk rfl ?_
      refine py_its (pc := 110) (pc1 := 111) (lv1 := lv) (st1 := [.int (Int32.ofInt 0), .ref 69]) 1 (fun _ _ _ _ => rfl) ?_
      have h := sb_e h
      refine py_pI (pc := 111) (len := 3) (cs := [69]) rfl rfl rfl List.mem_cons_self hS15 rfl rfl rfl rfl ?_
      have hS17 : oS (wF q12 69 1 (.int (Int32.ofInt 0))) := oS_wI (cs := [69]) (ci := 9) rfl List.mem_cons_self hS15
      generalize (wF q12 69 1 (.int (Int32.ofInt 0))) = h16 at h hS17 ⊢
      refine py_its (pc := 114) (pc1 := 115) (lv1 := lv) (st1 := [.int (Int32.ofInt 0)]) 1 (fun _ _ _ _ => rfl) ?_
      refine py_sti (pc := 115) (len := 2) (j := 4) rfl rfl hk (fun lv18 hk19 => ?_)
      have hk19 : lk lv18 [(4, .int (Int32.ofInt 0)), (0, .ref 69), (1, .int v1), (2, .int v2), (3, .int v3)] := hk19
      exact fl_M_run_L117 fu (Int32.ofInt 0) h16 lv18 _ hS17 ⟨lk_find hk19 rfl, lk_find hk19 rfl, lk_find hk19 rfl, lk_find hk19 rfl, trivial⟩ h
    | false =>
      have h := cd_f hb11 h
      refine py_if (pc := 37) (len := 3) false rfl hb11 ?_
      refine py_aln (pc := 40) (len := 1) (j := 0) rfl hk rfl ?_
      refine py_g1 88 (pc := 41) (len := 3) (cs := [69]) rfl rfl rfl List.mem_cons_self hS ?_
      refine py_aln (pc := 44) (len := 1) (j := 0) rfl hk rfl ?_
      refine py_g1 79 (pc := 45) (len := 3) (cs := [69]) rfl rfl rfl List.mem_cons_self hS ?_
      refine py_iln (pc := 48) (len := 1) (j := 1) rfl hk rfl ?_
      obtain ⟨hi20, h⟩ := cd_n h
      refine py_ai (pc := 49) (len := 1) (cs := [79]) (t := 36) (n := 6) rfl rfl rfl hi20 List.mem_cons_self hS ?_
      obtain ⟨hi21, h⟩ := cd_n h
      refine py_ai (pc := 50) (len := 1) (cs := [88]) (t := 45) (n := 2) rfl rfl rfl hi21 List.mem_cons_self hS ?_
      refine py_sti (pc := 51) (len := 2) (j := 4) rfl rfl hk (fun lv22 hk23 => ?_)
      have hk23 : lk lv22 [(4, .int (aI hp 88 (aI hp 79 v1.toNatClampNeg).toNatClampNeg)), (0, .ref 69), (1, .int v1), (2, .int v2), (3, .int v3)] := hk23
      refine py_il (pc := 53) (len := 2) (j := 4) rfl hk23 rfl ?_
      refine py_aln (pc := 55) (len := 1) (j := 0) rfl hk23 rfl ?_
      refine py_il (pc := 56) (len := 2) (j := 4) rfl hk23 rfl ?_
      refine py_st (pc := 58) (mi := mi_I_bitCount) (N := mm_I_bitCount) rfl rfl rfl (Nat.le_of_ble_eq_true rfl) (Nat.le_of_ble_eq_true rfl) rfl rfl (nm_bc_C (aI hp 88 (aI hp 79 v1.toNatClampNeg).toNatClampNeg) hp) ?_
      show px_Y mm_M_run 61 lv22 [.int (nm_bc (aI hp 88 (aI hp 79 v1.toNatClampNeg).toNatClampNeg)), .ref 69, .int (aI hp 88 (aI hp 79 v1.toNatClampNeg).toNatClampNeg)] hp _ _
      obtain ⟨q24, hq25, h⟩ := bd_e h
      obtain ⟨hC26, hS27⟩ := fx_M_draws hS hq25
      refine py_vi (pc := 61) (mi := mi_M_draws) (cs := [69]) (N := mm_M_draws) rfl rfl rfl rfl List.mem_cons_self hS rfl (Nat.le_of_ble_eq_true rfl) (Nat.le_of_ble_eq_true rfl) rfl rfl hC26 ?_
      show px_Y mm_M_run 64 lv22 [.int q24.1, .int (aI hp 88 (aI hp 79 v1.toNatClampNeg).toNatClampNeg)] q24.2 _ _
      obtain ⟨q28, hq29, h⟩ := bd_e h
      have hC30 := (fx_M_nth hS27 hq29).1
      refine py_st (pc := 64) (mi := mi_M_nth) (N := mm_M_nth) rfl rfl rfl (Nat.le_of_ble_eq_true rfl) (Nat.le_of_ble_eq_true rfl) rfl rfl hC30 ?_
      show px_Y mm_M_run 67 lv22 [.int q28] q24.2 _ _
      refine py_sti (pc := 67) (len := 2) (j := 5) rfl rfl hk23 (fun lv31 hk32 => ?_)
      have hk32 : lk lv31 [(5, .int q28), (4, .int (aI hp 88 (aI hp 79 v1.toNatClampNeg).toNatClampNeg)), (0, .ref 69), (1, .int v1), (2, .int v2), (3, .int v3)] := hk32
      refine py_aln (pc := 69) (len := 1) (j := 0) rfl hk32 rfl ?_
      refine py_g1 92 (pc := 70) (len := 3) (cs := [69]) rfl rfl rfl List.mem_cons_self hS27 ?_
      refine py_iln (pc := 73) (len := 1) (j := 3) rfl hk32 rfl ?_
      refine py_il (pc := 74) (len := 2) (j := 5) rfl hk32 rfl ?_
      obtain ⟨hi33, h⟩ := cd_n h
      have h := sb_e h
      refine py_si (pc := 76) (len := 1) (cs := [92]) (t := 49) (n := 10) rfl rfl rfl hi33 List.mem_cons_self hS27 ?_
      have hS35 : oS (uI q24.2 92 v3.toNatClampNeg q28) := oS_uI (cs := [92]) (t := 49) (n := 10) rfl List.mem_cons_self hS27
      generalize (uI q24.2 92 v3.toNatClampNeg q28) = h34 at h hS35 ⊢
      refine py_inc (pc := 77) (len := 3) (j := 3) (n := 1) rfl rfl hk32 rfl (fun lv36 hk37 => ?_)
      have hk37 : lk lv36 [(3, .int (v3 + Int32.ofInt 1)), (5, .int q28), (4, .int (aI hp 88 (aI hp 79 v1.toNatClampNeg).toNatClampNeg)), (0, .ref 69), (1, .int v1), (2, .int v2)] := hk37
      refine py_aln (pc := 80) (len := 1) (j := 0) rfl hk37 rfl ?_
      refine py_iln (pc := 81) (len := 1) (j := 1) rfl hk37 rfl ?_
      refine py_il (pc := 82) (len := 2) (j := 5) rfl hk37 rfl ?_
      obtain ⟨q38, hq39, h⟩ := bd_e h
      obtain ⟨hC40, hS41⟩ := fx_M_takes hS35 hq39
      refine py_vi (pc := 84) (mi := mi_M_takes) (cs := [69]) (N := mm_M_takes) rfl rfl rfl rfl List.mem_cons_self hS35 rfl (Nat.le_of_ble_eq_true rfl) (Nat.le_of_ble_eq_true rfl) rfl rfl hC40 ?_
      show px_Y mm_M_run 87 lv36 [.int q38.1] q38.2 _ _
      cases hb42 : px_cmp .eq q38.1 0 with
      | true =>
        have h := cd_t hb42 h
        refine py_if (pc := 87) (len := 3) true rfl hb42 ?_
        refine py_its (pc := 101) (pc1 := 32) (lv1 := lv36) (st1 := []) 1 (fun _ _ _ _ => rfl) ?_
        exact ih v2 (v3 + Int32.ofInt 1) q38.2 lv36 _ hS41 ⟨lk_find hk37 rfl, lk_find hk37 rfl, lk_find hk37 rfl, lk_find hk37 rfl, trivial⟩ h
      | false =>
        have h := cd_f hb42 h
        refine py_if (pc := 87) (len := 3) false rfl hb42 ?_
        refine py_aln (pc := 90) (len := 1) (j := 0) rfl hk37 rfl ?_
        refine py_g1 91 (pc := 91) (len := 3) (cs := [69]) rfl rfl rfl List.mem_cons_self hS41 ?_
        refine py_iln (pc := 94) (len := 1) (j := 2) rfl hk37 rfl ?_
        refine py_il (pc := 95) (len := 2) (j := 5) rfl hk37 rfl ?_
        obtain ⟨hi43, h⟩ := cd_n h
        have h := sb_e h
        refine py_si (pc := 97) (len := 1) (cs := [91]) (t := 48) (n := 3) rfl rfl rfl hi43 List.mem_cons_self hS41 ?_
        have hS45 : oS (uI q38.2 91 v2.toNatClampNeg q28) := oS_uI (cs := [91]) (t := 48) (n := 3) rfl List.mem_cons_self hS41
        generalize (uI q38.2 91 v2.toNatClampNeg q28) = h44 at h hS45 ⊢
        refine py_inc (pc := 98) (len := 3) (j := 2) (n := 1) rfl rfl hk37 rfl (fun lv46 hk47 => ?_)
        have hk47 : lk lv46 [(2, .int (v2 + Int32.ofInt 1)), (3, .int (v3 + Int32.ofInt 1)), (5, .int q28), (4, .int (aI hp 88 (aI hp 79 v1.toNatClampNeg).toNatClampNeg)), (0, .ref 69), (1, .int v1)] := hk47
        refine py_its (pc := 101) (pc1 := 32) (lv1 := lv46) (st1 := []) 1 (fun _ _ _ _ => rfl) ?_
        exact ih (v2 + Int32.ofInt 1) (v3 + Int32.ofInt 1) h44 lv46 _ hS45 ⟨lk_find hk47 rfl, lk_find hk47 rfl, lk_find hk47 rfl, lk_find hk47 rfl, trivial⟩ h
noncomputable def fn_M_run  (hp : px_H) : Option (Int32 × px_H) :=
  sb (wF hp 69 0 (.int (Int32.ofInt 0))) fun h1 =>
  bif px_cmp .lt (gI h1 69 31) (gI h1 69 11) then
    (fn_M_opens (gI h1 69 31) h1).bind fun q4 =>
    fn_M_run_L32 (gI h1 69 31) fu (Int32.ofInt 0) (Int32.ofInt 0) q4
  else
    some ((Int32.ofInt (-1)), h1)
theorem fx_M_run  {hp : px_H} {res : Int32 × px_H} (hS : oS hp) (h : fn_M_run hp = some res) : px_C nm_T nm_P mi_M_run [.ref 69] hp (some (.int res.1)) res.2 ∧ oS res.2 := by
  unfold fn_M_run at h
  refine py_C (M := mm_M_run) rfl (Nat.le_of_ble_eq_true rfl) ?_
  show px_Y mm_M_run 0 [(0, .ref 69)] [] hp _ _
  refine py_its (pc := 0) (pc1 := 2) (lv1 := [(0, .ref 69)]) (st1 := [.int (Int32.ofInt 0), .ref 69]) 2 (fun _ _ _ _ => rfl) ?_
  have h := sb_e h
  refine py_pI (pc := 2) (len := 3) (cs := [69]) rfl rfl rfl List.mem_cons_self hS rfl rfl rfl rfl ?_
  have hS2 : oS (wF hp 69 0 (.int (Int32.ofInt 0))) := oS_wI (cs := [69]) (ci := 9) rfl List.mem_cons_self hS
  generalize (wF hp 69 0 (.int (Int32.ofInt 0))) = h1 at h hS2 ⊢
  refine py_its (pc := 5) (pc1 := 6) (lv1 := [(0, .ref 69)]) (st1 := [.ref 69]) 1 (fun _ _ _ _ => rfl) ?_
  refine py_gI (pc := 6) (len := 3) (cs := [69]) rfl rfl rfl List.mem_cons_self hS2 ?_
  refine py_its (pc := 9) (pc1 := 10) (lv1 := [(0, .ref 69)]) (st1 := [.ref 69, .int (gI h1 69 31)]) 1 (fun _ _ _ _ => rfl) ?_
  refine py_gI (pc := 10) (len := 3) (cs := [69]) rfl rfl rfl List.mem_cons_self hS2 ?_
  cases hb3 : px_cmp .lt (gI h1 69 31) (gI h1 69 11) with
  | true =>
    have h := cd_t hb3 h
    refine py_ic (pc := 13) (len := 3) true rfl hb3 ?_
    refine py_its (pc := 18) (pc1 := 19) (lv1 := [(0, .ref 69)]) (st1 := [.ref 69]) 1 (fun _ _ _ _ => rfl) ?_
    refine py_gI (pc := 19) (len := 3) (cs := [69]) rfl rfl rfl List.mem_cons_self hS2 ?_
    refine py_its (pc := 22) (pc1 := 29) (lv1 := [(3, .int (Int32.ofInt 0)), (2, .int (Int32.ofInt 0)), (1, .int (gI h1 69 31)), (0, .ref 69)]) (st1 := [.int (gI h1 69 31), .ref 69]) 7 (fun _ _ _ _ => rfl) ?_
    obtain ⟨q4, hq5, h⟩ := bd_e h
    obtain ⟨hC6, hS7⟩ := fx_M_opens hS2 hq5
    refine py_vi (pc := 29) (mi := mi_M_opens) (cs := [69]) (N := mm_M_opens) rfl rfl rfl rfl List.mem_cons_self hS2 rfl (Nat.le_of_ble_eq_true rfl) (Nat.le_of_ble_eq_true rfl) rfl rfl hC6 ?_
    show px_Y mm_M_run 32 [(3, .int (Int32.ofInt 0)), (2, .int (Int32.ofInt 0)), (1, .int (gI h1 69 31)), (0, .ref 69)] [] q4 _ _
    exact fl_M_run_L32 fu (Int32.ofInt 0) (Int32.ofInt 0) q4 [(3, .int (Int32.ofInt 0)), (2, .int (Int32.ofInt 0)), (1, .int (gI h1 69 31)), (0, .ref 69)] _ hS7 ⟨rfl, rfl, rfl, rfl, trivial⟩ h
  | false =>
    have h := cd_f hb3 h
    refine py_ic (pc := 13) (len := 3) false rfl hb3 ?_
    refine py_its (pc := 16) (pc1 := 17) (lv1 := [(0, .ref 69)]) (st1 := [.int (Int32.ofInt (-1))]) 1 (fun _ _ _ _ => rfl) ?_
    have h := Option.some.inj h
    subst h
    exact py_ir (pc := 17) (len := 1) (ty := .int) rfl rfl rfl hS2
/-! M_first -/
noncomputable def fn_M_first  (hp : px_H) : Option (Int64) :=
  some (((aI hp 88 (Int32.ofInt 0).toNatClampNeg) ||| ((aI hp 88 (Int32.ofInt 1).toNatClampNeg) <<< ((Int8.ofInt 10).toInt32 &&& 31))).toInt64 ||| ((((sx_lsl (aI hp 89 (Int32.ofInt 0).toNatClampNeg).toInt64 (Int8.ofInt 20).toInt32) ||| (sx_lsl (aI hp 89 (Int32.ofInt 1).toNatClampNeg).toInt64 (Int8.ofInt 30).toInt32)) ||| (sx_lsl (gI hp 69 32).toInt64 (Int8.ofInt 40).toInt32)) ||| (sx_lsl (gI hp 69 33).toInt64 (Int8.ofInt 50).toInt32)))
theorem fx_M_first  {hp : px_H} {res : Int64} (hS : oS hp) (h : fn_M_first hp = some res) : px_C nm_T nm_P mi_M_first [.ref 69] hp (some (.long res)) hp ∧ oS hp := by
  unfold fn_M_first at h
  refine py_C (M := mm_M_first) rfl (Nat.le_of_ble_eq_true rfl) ?_
  show px_Y mm_M_first 0 [(0, .ref 69)] [] hp _ _
  refine py_its (pc := 0) (pc1 := 1) (lv1 := [(0, .ref 69)]) (st1 := [.ref 69]) 1 (fun _ _ _ _ => rfl) ?_
  refine py_g1 88 (pc := 1) (len := 3) (cs := [69]) rfl rfl rfl List.mem_cons_self hS ?_
  refine py_its (pc := 4) (pc1 := 5) (lv1 := [(0, .ref 69)]) (st1 := [.int (Int32.ofInt 0), .ref 88]) 1 (fun _ _ _ _ => rfl) ?_
  refine py_ai (pc := 5) (len := 1) (cs := [88]) (t := 45) (n := 2) rfl rfl rfl rfl List.mem_cons_self hS ?_
  refine py_its (pc := 6) (pc1 := 7) (lv1 := [(0, .ref 69)]) (st1 := [.ref 69, .int (aI hp 88 (Int32.ofInt 0).toNatClampNeg)]) 1 (fun _ _ _ _ => rfl) ?_
  refine py_g1 88 (pc := 7) (len := 3) (cs := [69]) rfl rfl rfl List.mem_cons_self hS ?_
  refine py_its (pc := 10) (pc1 := 11) (lv1 := [(0, .ref 69)]) (st1 := [.int (Int32.ofInt 1), .ref 88, .int (aI hp 88 (Int32.ofInt 0).toNatClampNeg)]) 1 (fun _ _ _ _ => rfl) ?_
  refine py_ai (pc := 11) (len := 1) (cs := [88]) (t := 45) (n := 2) rfl rfl rfl rfl List.mem_cons_self hS ?_
  refine py_its (pc := 12) (pc1 := 20) (lv1 := [(1, .long ((aI hp 88 (Int32.ofInt 0).toNatClampNeg) ||| ((aI hp 88 (Int32.ofInt 1).toNatClampNeg) <<< ((Int8.ofInt 10).toInt32 &&& 31))).toInt64), (0, .ref 69)]) (st1 := [.ref 69, .long ((aI hp 88 (Int32.ofInt 0).toNatClampNeg) ||| ((aI hp 88 (Int32.ofInt 1).toNatClampNeg) <<< ((Int8.ofInt 10).toInt32 &&& 31))).toInt64]) 7 (fun _ _ _ _ => rfl) ?_
  refine py_g1 89 (pc := 20) (len := 3) (cs := [69]) rfl rfl rfl List.mem_cons_self hS ?_
  refine py_its (pc := 23) (pc1 := 24) (lv1 := [(1, .long ((aI hp 88 (Int32.ofInt 0).toNatClampNeg) ||| ((aI hp 88 (Int32.ofInt 1).toNatClampNeg) <<< ((Int8.ofInt 10).toInt32 &&& 31))).toInt64), (0, .ref 69)]) (st1 := [.int (Int32.ofInt 0), .ref 89, .long ((aI hp 88 (Int32.ofInt 0).toNatClampNeg) ||| ((aI hp 88 (Int32.ofInt 1).toNatClampNeg) <<< ((Int8.ofInt 10).toInt32 &&& 31))).toInt64]) 1 (fun _ _ _ _ => rfl) ?_
  refine py_ai (pc := 24) (len := 1) (cs := [89]) (t := 46) (n := 2) rfl rfl rfl rfl List.mem_cons_self hS ?_
  refine py_its (pc := 25) (pc1 := 30) (lv1 := [(1, .long ((aI hp 88 (Int32.ofInt 0).toNatClampNeg) ||| ((aI hp 88 (Int32.ofInt 1).toNatClampNeg) <<< ((Int8.ofInt 10).toInt32 &&& 31))).toInt64), (0, .ref 69)]) (st1 := [.ref 69, .long (sx_lsl (aI hp 89 (Int32.ofInt 0).toNatClampNeg).toInt64 (Int8.ofInt 20).toInt32), .long ((aI hp 88 (Int32.ofInt 0).toNatClampNeg) ||| ((aI hp 88 (Int32.ofInt 1).toNatClampNeg) <<< ((Int8.ofInt 10).toInt32 &&& 31))).toInt64]) 4 (fun _ _ _ _ => rfl) ?_
  refine py_g1 89 (pc := 30) (len := 3) (cs := [69]) rfl rfl rfl List.mem_cons_self hS ?_
  refine py_its (pc := 33) (pc1 := 34) (lv1 := [(1, .long ((aI hp 88 (Int32.ofInt 0).toNatClampNeg) ||| ((aI hp 88 (Int32.ofInt 1).toNatClampNeg) <<< ((Int8.ofInt 10).toInt32 &&& 31))).toInt64), (0, .ref 69)]) (st1 := [.int (Int32.ofInt 1), .ref 89, .long (sx_lsl (aI hp 89 (Int32.ofInt 0).toNatClampNeg).toInt64 (Int8.ofInt 20).toInt32), .long ((aI hp 88 (Int32.ofInt 0).toNatClampNeg) ||| ((aI hp 88 (Int32.ofInt 1).toNatClampNeg) <<< ((Int8.ofInt 10).toInt32 &&& 31))).toInt64]) 1 (fun _ _ _ _ => rfl) ?_
  refine py_ai (pc := 34) (len := 1) (cs := [89]) (t := 46) (n := 2) rfl rfl rfl rfl List.mem_cons_self hS ?_
  refine py_its (pc := 35) (pc1 := 41) (lv1 := [(1, .long ((aI hp 88 (Int32.ofInt 0).toNatClampNeg) ||| ((aI hp 88 (Int32.ofInt 1).toNatClampNeg) <<< ((Int8.ofInt 10).toInt32 &&& 31))).toInt64), (0, .ref 69)]) (st1 := [.ref 69, .long ((sx_lsl (aI hp 89 (Int32.ofInt 0).toNatClampNeg).toInt64 (Int8.ofInt 20).toInt32) ||| (sx_lsl (aI hp 89 (Int32.ofInt 1).toNatClampNeg).toInt64 (Int8.ofInt 30).toInt32)), .long ((aI hp 88 (Int32.ofInt 0).toNatClampNeg) ||| ((aI hp 88 (Int32.ofInt 1).toNatClampNeg) <<< ((Int8.ofInt 10).toInt32 &&& 31))).toInt64]) 5 (fun _ _ _ _ => rfl) ?_
  refine py_gI (pc := 41) (len := 3) (cs := [69]) rfl rfl rfl List.mem_cons_self hS ?_
  refine py_its (pc := 44) (pc1 := 50) (lv1 := [(1, .long ((aI hp 88 (Int32.ofInt 0).toNatClampNeg) ||| ((aI hp 88 (Int32.ofInt 1).toNatClampNeg) <<< ((Int8.ofInt 10).toInt32 &&& 31))).toInt64), (0, .ref 69)]) (st1 := [.ref 69, .long (((sx_lsl (aI hp 89 (Int32.ofInt 0).toNatClampNeg).toInt64 (Int8.ofInt 20).toInt32) ||| (sx_lsl (aI hp 89 (Int32.ofInt 1).toNatClampNeg).toInt64 (Int8.ofInt 30).toInt32)) ||| (sx_lsl (gI hp 69 32).toInt64 (Int8.ofInt 40).toInt32)), .long ((aI hp 88 (Int32.ofInt 0).toNatClampNeg) ||| ((aI hp 88 (Int32.ofInt 1).toNatClampNeg) <<< ((Int8.ofInt 10).toInt32 &&& 31))).toInt64]) 5 (fun _ _ _ _ => rfl) ?_
  refine py_gI (pc := 50) (len := 3) (cs := [69]) rfl rfl rfl List.mem_cons_self hS ?_
  refine py_its (pc := 53) (pc1 := 61) (lv1 := [(1, .long (((aI hp 88 (Int32.ofInt 0).toNatClampNeg) ||| ((aI hp 88 (Int32.ofInt 1).toNatClampNeg) <<< ((Int8.ofInt 10).toInt32 &&& 31))).toInt64 ||| ((((sx_lsl (aI hp 89 (Int32.ofInt 0).toNatClampNeg).toInt64 (Int8.ofInt 20).toInt32) ||| (sx_lsl (aI hp 89 (Int32.ofInt 1).toNatClampNeg).toInt64 (Int8.ofInt 30).toInt32)) ||| (sx_lsl (gI hp 69 32).toInt64 (Int8.ofInt 40).toInt32)) ||| (sx_lsl (gI hp 69 33).toInt64 (Int8.ofInt 50).toInt32)))), (0, .ref 69)]) (st1 := [.long (((aI hp 88 (Int32.ofInt 0).toNatClampNeg) ||| ((aI hp 88 (Int32.ofInt 1).toNatClampNeg) <<< ((Int8.ofInt 10).toInt32 &&& 31))).toInt64 ||| ((((sx_lsl (aI hp 89 (Int32.ofInt 0).toNatClampNeg).toInt64 (Int8.ofInt 20).toInt32) ||| (sx_lsl (aI hp 89 (Int32.ofInt 1).toNatClampNeg).toInt64 (Int8.ofInt 30).toInt32)) ||| (sx_lsl (gI hp 69 32).toInt64 (Int8.ofInt 40).toInt32)) ||| (sx_lsl (gI hp 69 33).toInt64 (Int8.ofInt 50).toInt32)))]) 7 (fun _ _ _ _ => rfl) ?_
  have h := Option.some.inj h
  subst h
  exact py_lr (pc := 61) (len := 1) rfl rfl hS
/-! M_second -/
noncomputable def fb_M_second_L4 (hp : px_H) (rc : Int64 → Int32 → Option (Int64)) (v1 : Int64) (v3 : Int32) : Option (Int64) :=
  bif px_cmp .ge v3 (Int8.ofInt 10).toInt32 then
    some v1
  else
    bif px_inR v3 10 then
    rc ((sx_lsl v1 (Int32.ofInt 3)) ||| (aI hp 90 v3.toNatClampNeg).toInt64) (v3 + Int32.ofInt 1)
    else none
noncomputable def fn_M_second_L4 (hp : px_H) : Nat → Int64 → Int32 → Option (Int64)
  | 0 => fun _ _ => none
  | n + 1 => fb_M_second_L4 hp (fn_M_second_L4 hp n)
theorem fl_M_second_L4 {hp : px_H}  : ∀ (n : Nat) (v1 : Int64) (v3 : Int32) (lv : List (Nat × Value)) (res : Int64), oS hp → lk lv [(0, .ref 69), (1, .long v1), (3, .int v3)] → fn_M_second_L4 hp n v1 v3 = some res → px_Y mm_M_second 4 lv [] hp (some (.long res)) hp := by
  intro n
  induction n with
  | zero =>
    intro v1 v3 lv res hS hk h
    cases h
  | succ n ih =>
    intro v1 v3 lv res hS hk h
    have h : fb_M_second_L4 hp (fn_M_second_L4 hp n) v1 v3 = some res := h
    unfold fb_M_second_L4 at h
    refine py_iln (pc := 4) (len := 1) (j := 3) rfl hk rfl ?_
    refine py_its (pc := 5) (pc1 := 7) (lv1 := lv) (st1 := [.int (Int8.ofInt 10).toInt32, .int v3]) 1 (fun _ _ _ _ => rfl) ?_
    cases hb1 : px_cmp .ge v3 (Int8.ofInt 10).toInt32 with
    | true =>
      have h := cd_t hb1 h
      refine py_ic (pc := 7) (len := 3) true rfl hb1 ?_
      refine py_lln (pc := 28) (len := 1) (j := 1) rfl hk rfl ?_
      have h := Option.some.inj h
      subst h
      exact py_lr (pc := 29) (len := 1) rfl rfl hS
    | false =>
      have h := cd_f hb1 h
      refine py_ic (pc := 7) (len := 3) false rfl hb1 ?_
      refine py_lln (pc := 10) (len := 1) (j := 1) rfl hk rfl ?_
      refine py_its (pc := 11) (pc1 := 13) (lv1 := lv) (st1 := [.long (sx_lsl v1 (Int32.ofInt 3))]) 2 (fun _ _ _ _ => rfl) ?_
      refine py_aln (pc := 13) (len := 1) (j := 0) rfl hk rfl ?_
      refine py_g1 90 (pc := 14) (len := 3) (cs := [69]) rfl rfl rfl List.mem_cons_self hS ?_
      refine py_iln (pc := 17) (len := 1) (j := 3) rfl hk rfl ?_
      obtain ⟨hi2, h⟩ := cd_n h
      refine py_ai (pc := 18) (len := 1) (cs := [90]) (t := 47) (n := 10) rfl rfl rfl hi2 List.mem_cons_self hS ?_
      refine py_its (pc := 19) (pc1 := 21) (lv1 := lv) (st1 := [.long ((sx_lsl v1 (Int32.ofInt 3)) ||| (aI hp 90 v3.toNatClampNeg).toInt64)]) 2 (fun _ _ _ _ => rfl) ?_
      refine py_sln (pc := 21) (len := 1) (j := 1) rfl rfl hk (fun lv3 hk4 => ?_)
      have hk4 : lk lv3 [(1, .long ((sx_lsl v1 (Int32.ofInt 3)) ||| (aI hp 90 v3.toNatClampNeg).toInt64)), (0, .ref 69), (3, .int v3)] := hk4
      refine py_inc (pc := 22) (len := 3) (j := 3) (n := 1) rfl rfl hk4 rfl (fun lv5 hk6 => ?_)
      have hk6 : lk lv5 [(3, .int (v3 + Int32.ofInt 1)), (1, .long ((sx_lsl v1 (Int32.ofInt 3)) ||| (aI hp 90 v3.toNatClampNeg).toInt64)), (0, .ref 69)] := hk6
      refine py_its (pc := 25) (pc1 := 4) (lv1 := lv5) (st1 := []) 1 (fun _ _ _ _ => rfl) ?_
      exact ih ((sx_lsl v1 (Int32.ofInt 3)) ||| (aI hp 90 v3.toNatClampNeg).toInt64) (v3 + Int32.ofInt 1) lv5 _ hS ⟨lk_find hk6 rfl, lk_find hk6 rfl, lk_find hk6 rfl, trivial⟩ h
noncomputable def fn_M_second  (hp : px_H) : Option (Int64) :=
  fn_M_second_L4 hp fu (Int64.ofNat 0) (Int32.ofInt 0)
theorem fx_M_second  {hp : px_H} {res : Int64} (hS : oS hp) (h : fn_M_second hp = some res) : px_C nm_T nm_P mi_M_second [.ref 69] hp (some (.long res)) hp ∧ oS hp := by
  unfold fn_M_second at h
  refine py_C (M := mm_M_second) rfl (Nat.le_of_ble_eq_true rfl) ?_
  show px_Y mm_M_second 0 [(0, .ref 69)] [] hp _ _
  refine py_its (pc := 0) (pc1 := 4) (lv1 := [(3, .int (Int32.ofInt 0)), (1, .long (Int64.ofNat 0)), (0, .ref 69)]) (st1 := []) 4 (fun _ _ _ _ => rfl) ?_
  exact fl_M_second_L4 fu (Int64.ofNat 0) (Int32.ofInt 0) [(3, .int (Int32.ofInt 0)), (1, .long (Int64.ofNat 0)), (0, .ref 69)] _ hS ⟨rfl, rfl, rfl, trivial⟩ h
/-! M_remembers -/
noncomputable def fn_M_remembers  (hp : px_H) : Option (px_H) :=
  (fn_M_first hp).bind fun q1 =>
  sb (wF hp 69 34 (.long q1)) fun h4 =>
  (fn_M_second h4).bind fun q6 =>
  sb (wF h4 69 35 (.long q6)) fun h9 =>
  sb (wF h9 69 36 (.int (gI h9 69 31))) fun h11 =>
  some h11
theorem fx_M_remembers  {hp : px_H} {res : px_H} (hS : oS hp) (h : fn_M_remembers hp = some res) : px_C nm_T nm_P mi_M_remembers [.ref 69] hp none res ∧ oS res := by
  unfold fn_M_remembers at h
  refine py_C (M := mm_M_remembers) rfl (Nat.le_of_ble_eq_true rfl) ?_
  show px_Y mm_M_remembers 0 [(0, .ref 69)] [] hp _ _
  refine py_its (pc := 0) (pc1 := 2) (lv1 := [(0, .ref 69)]) (st1 := [.ref 69, .ref 69]) 2 (fun _ _ _ _ => rfl) ?_
  obtain ⟨q1, hq2, h⟩ := bd_e h
  have hC3 := (fx_M_first hS hq2).1
  refine py_vi (pc := 2) (mi := mi_M_first) (cs := [69]) (N := mm_M_first) rfl rfl rfl rfl List.mem_cons_self hS rfl (Nat.le_of_ble_eq_true rfl) (Nat.le_of_ble_eq_true rfl) rfl rfl hC3 ?_
  show px_Y mm_M_remembers 5 [(0, .ref 69)] [.long q1, .ref 69] hp _ _
  have h := sb_e h
  refine py_pL (pc := 5) (len := 3) (cs := [69]) rfl rfl rfl List.mem_cons_self hS rfl rfl rfl rfl ?_
  have hS5 : oS (wF hp 69 34 (.long q1)) := oS_wL (cs := [69]) (ci := 9) rfl List.mem_cons_self hS
  generalize (wF hp 69 34 (.long q1)) = h4 at h hS5 ⊢
  refine py_its (pc := 8) (pc1 := 10) (lv1 := [(0, .ref 69)]) (st1 := [.ref 69, .ref 69]) 2 (fun _ _ _ _ => rfl) ?_
  obtain ⟨q6, hq7, h⟩ := bd_e h
  have hC8 := (fx_M_second hS5 hq7).1
  refine py_vi (pc := 10) (mi := mi_M_second) (cs := [69]) (N := mm_M_second) rfl rfl rfl rfl List.mem_cons_self hS5 rfl (Nat.le_of_ble_eq_true rfl) (Nat.le_of_ble_eq_true rfl) rfl rfl hC8 ?_
  show px_Y mm_M_remembers 13 [(0, .ref 69)] [.long q6, .ref 69] h4 _ _
  have h := sb_e h
  refine py_pL (pc := 13) (len := 3) (cs := [69]) rfl rfl rfl List.mem_cons_self hS5 rfl rfl rfl rfl ?_
  have hS10 : oS (wF h4 69 35 (.long q6)) := oS_wL (cs := [69]) (ci := 9) rfl List.mem_cons_self hS5
  generalize (wF h4 69 35 (.long q6)) = h9 at h hS10 ⊢
  refine py_its (pc := 16) (pc1 := 18) (lv1 := [(0, .ref 69)]) (st1 := [.ref 69, .ref 69]) 2 (fun _ _ _ _ => rfl) ?_
  refine py_gI (pc := 18) (len := 3) (cs := [69]) rfl rfl rfl List.mem_cons_self hS10 ?_
  have h := sb_e h
  refine py_pI (pc := 21) (len := 3) (cs := [69]) rfl rfl rfl List.mem_cons_self hS10 rfl rfl rfl rfl ?_
  have hS12 : oS (wF h9 69 36 (.int (gI h9 69 31))) := oS_wI (cs := [69]) (ci := 9) rfl List.mem_cons_self hS10
  generalize (wF h9 69 36 (.int (gI h9 69 31))) = h11 at h hS12 ⊢
  have h := Option.some.inj h
  subst h
  exact py_rt (pc := 24) (len := 1) rfl rfl hS12
/-! M_goesBy -/
noncomputable def fb_M_goesBy_L15 (v1 : Int64) (v3 : Int32) (v4 : Int32) (rc : Int32 → px_H → Option (Int32 × px_H)) (v5 : Int32) (hp : px_H) : Option (Int32 × px_H) :=
  bif px_cmp .ge v5 v3 then
    some (v3, hp)
  else
    (fn_M_isOver v4 hp).bind fun q8 =>
    bif px_cmp .ne q8 0 then
      some (v5, hp)
    else
      bif px_cmp .ge ((sx_lsr v1 ((Int32.ofInt 4) * v5)) &&& (Int64.ofInt 15)).toInt32 (Int8.ofInt 10).toInt32 then
        some (v5, hp)
      else
        bif px_inR v4 6 then
        bif px_inR (aI hp 79 v4.toNatClampNeg) 2 then
        bif px_cmp .ne (sx_has (aI hp 88 (aI hp 79 v4.toNatClampNeg).toNatClampNeg) ((sx_lsr v1 ((Int32.ofInt 4) * v5)) &&& (Int64.ofInt 15)).toInt32) 0 then
          (fn_M_takes v4 ((sx_lsr v1 ((Int32.ofInt 4) * v5)) &&& (Int64.ofInt 15)).toInt32 hp).bind fun q16 =>
          rc (v5 + Int32.ofInt 1) q16.2
        else
          some (v5, hp)
        else none
        else none
noncomputable def fn_M_goesBy_L15 (v1 : Int64) (v3 : Int32) (v4 : Int32) : Nat → Int32 → px_H → Option (Int32 × px_H)
  | 0 => fun _ _ => none
  | n + 1 => fb_M_goesBy_L15 v1 v3 v4 (fn_M_goesBy_L15 v1 v3 v4 n)
theorem fl_M_goesBy_L15 {v1 : Int64} {v3 : Int32} {v4 : Int32}  : ∀ (n : Nat) (v5 : Int32) (hp : px_H) (lv : List (Nat × Value)) (res : Int32 × px_H), oS hp → lk lv [(0, .ref 69), (1, .long v1), (3, .int v3), (4, .int v4), (5, .int v5)] → fn_M_goesBy_L15 v1 v3 v4 n v5 hp = some res → px_Y mm_M_goesBy 15 lv [] hp (some (.int res.1)) res.2 := by
  intro n
  induction n with
  | zero =>
    intro v5 hp lv res hS hk h
    cases h
  | succ n ih =>
    intro v5 hp lv res hS hk h
    have h : fb_M_goesBy_L15 v1 v3 v4 (fn_M_goesBy_L15 v1 v3 v4 n) v5 hp = some res := h
    unfold fb_M_goesBy_L15 at h
    refine py_il (pc := 15) (len := 2) (j := 5) rfl hk rfl ?_
    refine py_iln (pc := 17) (len := 1) (j := 3) rfl hk rfl ?_
    cases hb5 : px_cmp .ge v5 v3 with
    | true =>
      have h := cd_t hb5 h
      refine py_ic (pc := 18) (len := 3) true rfl hb5 ?_
      refine py_iln (pc := 88) (len := 1) (j := 3) rfl hk rfl ?_
      have h := Option.some.inj h
      subst h
      exact py_ir (pc := 89) (len := 1) (ty := .int) rfl rfl rfl hS
    | false =>
      have h := cd_f hb5 h
      refine py_ic (pc := 18) (len := 3) false rfl hb5 ?_
      refine py_lln (pc := 21) (len := 1) (j := 1) rfl hk rfl ?_
      refine py_its (pc := 22) (pc1 := 23) (lv1 := lv) (st1 := [.int (Int32.ofInt 4), .long v1]) 1 (fun _ _ _ _ => rfl) ?_
      refine py_il (pc := 23) (len := 2) (j := 5) rfl hk rfl ?_
      refine py_its (pc := 25) (pc1 := 32) (lv1 := lv) (st1 := [.int ((sx_lsr v1 ((Int32.ofInt 4) * v5)) &&& (Int64.ofInt 15)).toInt32]) 5 (fun _ _ _ _ => rfl) ?_
      refine py_sti (pc := 32) (len := 2) (j := 6) rfl rfl hk (fun lv6 hk7 => ?_)
      have hk7 : lk lv6 [(6, .int ((sx_lsr v1 ((Int32.ofInt 4) * v5)) &&& (Int64.ofInt 15)).toInt32), (0, .ref 69), (1, .long v1), (3, .int v3), (4, .int v4), (5, .int v5)] := hk7
      refine py_aln (pc := 34) (len := 1) (j := 0) rfl hk7 rfl ?_
      refine py_il (pc := 35) (len := 2) (j := 4) rfl hk7 rfl ?_
      obtain ⟨q8, hq9, h⟩ := bd_e h
      have hC10 := (fx_M_isOver hS hq9).1
      refine py_vi (pc := 37) (mi := mi_M_isOver) (cs := [69]) (N := mm_M_isOver) rfl rfl rfl rfl List.mem_cons_self hS rfl (Nat.le_of_ble_eq_true rfl) (Nat.le_of_ble_eq_true rfl) rfl rfl hC10 ?_
      show px_Y mm_M_goesBy 40 lv6 [.int q8] hp _ _
      cases hb11 : px_cmp .ne q8 0 with
      | true =>
        have h := cd_t hb11 h
        refine py_if (pc := 40) (len := 3) true rfl hb11 ?_
        refine py_il (pc := 70) (len := 2) (j := 5) rfl hk7 rfl ?_
        have h := Option.some.inj h
        subst h
        exact py_ir (pc := 72) (len := 1) (ty := .int) rfl rfl rfl hS
      | false =>
        have h := cd_f hb11 h
        refine py_if (pc := 40) (len := 3) false rfl hb11 ?_
        refine py_il (pc := 43) (len := 2) (j := 6) rfl hk7 rfl ?_
        refine py_its (pc := 45) (pc1 := 47) (lv1 := lv6) (st1 := [.int (Int8.ofInt 10).toInt32, .int ((sx_lsr v1 ((Int32.ofInt 4) * v5)) &&& (Int64.ofInt 15)).toInt32]) 1 (fun _ _ _ _ => rfl) ?_
        cases hb12 : px_cmp .ge ((sx_lsr v1 ((Int32.ofInt 4) * v5)) &&& (Int64.ofInt 15)).toInt32 (Int8.ofInt 10).toInt32 with
        | true =>
          have h := cd_t hb12 h
          refine py_ic (pc := 47) (len := 3) true rfl hb12 ?_
          refine py_il (pc := 70) (len := 2) (j := 5) rfl hk7 rfl ?_
          have h := Option.some.inj h
          subst h
          exact py_ir (pc := 72) (len := 1) (ty := .int) rfl rfl rfl hS
        | false =>
          have h := cd_f hb12 h
          refine py_ic (pc := 47) (len := 3) false rfl hb12 ?_
          refine py_aln (pc := 50) (len := 1) (j := 0) rfl hk7 rfl ?_
          refine py_g1 88 (pc := 51) (len := 3) (cs := [69]) rfl rfl rfl List.mem_cons_self hS ?_
          refine py_aln (pc := 54) (len := 1) (j := 0) rfl hk7 rfl ?_
          refine py_g1 79 (pc := 55) (len := 3) (cs := [69]) rfl rfl rfl List.mem_cons_self hS ?_
          refine py_il (pc := 58) (len := 2) (j := 4) rfl hk7 rfl ?_
          obtain ⟨hi13, h⟩ := cd_n h
          refine py_ai (pc := 60) (len := 1) (cs := [79]) (t := 36) (n := 6) rfl rfl rfl hi13 List.mem_cons_self hS ?_
          obtain ⟨hi14, h⟩ := cd_n h
          refine py_ai (pc := 61) (len := 1) (cs := [88]) (t := 45) (n := 2) rfl rfl rfl hi14 List.mem_cons_self hS ?_
          refine py_il (pc := 62) (len := 2) (j := 6) rfl hk7 rfl ?_
          refine py_st (pc := 64) (mi := mi_M_has) (N := mm_M_has) rfl rfl rfl (Nat.le_of_ble_eq_true rfl) (Nat.le_of_ble_eq_true rfl) rfl rfl (sx_has_C (aI hp 88 (aI hp 79 v4.toNatClampNeg).toNatClampNeg) ((sx_lsr v1 ((Int32.ofInt 4) * v5)) &&& (Int64.ofInt 15)).toInt32 hp) ?_
          show px_Y mm_M_goesBy 67 lv6 [.int (sx_has (aI hp 88 (aI hp 79 v4.toNatClampNeg).toNatClampNeg) ((sx_lsr v1 ((Int32.ofInt 4) * v5)) &&& (Int64.ofInt 15)).toInt32)] hp _ _
          cases hb15 : px_cmp .ne (sx_has (aI hp 88 (aI hp 79 v4.toNatClampNeg).toNatClampNeg) ((sx_lsr v1 ((Int32.ofInt 4) * v5)) &&& (Int64.ofInt 15)).toInt32) 0 with
          | true =>
            have h := cd_t hb15 h
            refine py_if (pc := 67) (len := 3) true rfl hb15 ?_
            refine py_aln (pc := 73) (len := 1) (j := 0) rfl hk7 rfl ?_
            refine py_il (pc := 74) (len := 2) (j := 4) rfl hk7 rfl ?_
            refine py_il (pc := 76) (len := 2) (j := 6) rfl hk7 rfl ?_
            obtain ⟨q16, hq17, h⟩ := bd_e h
            obtain ⟨hC18, hS19⟩ := fx_M_takes hS hq17
            refine py_vi (pc := 78) (mi := mi_M_takes) (cs := [69]) (N := mm_M_takes) rfl rfl rfl rfl List.mem_cons_self hS rfl (Nat.le_of_ble_eq_true rfl) (Nat.le_of_ble_eq_true rfl) rfl rfl hC18 ?_
            show px_Y mm_M_goesBy 81 lv6 [.int q16.1] q16.2 _ _
            refine py_its (pc := 81) (pc1 := 82) (lv1 := lv6) (st1 := []) 1 (fun _ _ _ _ => rfl) ?_
            refine py_inc (pc := 82) (len := 3) (j := 5) (n := 1) rfl rfl hk7 rfl (fun lv20 hk21 => ?_)
            have hk21 : lk lv20 [(5, .int (v5 + Int32.ofInt 1)), (6, .int ((sx_lsr v1 ((Int32.ofInt 4) * v5)) &&& (Int64.ofInt 15)).toInt32), (0, .ref 69), (1, .long v1), (3, .int v3), (4, .int v4)] := hk21
            refine py_its (pc := 85) (pc1 := 15) (lv1 := lv20) (st1 := []) 1 (fun _ _ _ _ => rfl) ?_
            exact ih (v5 + Int32.ofInt 1) q16.2 lv20 _ hS19 ⟨lk_find hk21 rfl, lk_find hk21 rfl, lk_find hk21 rfl, lk_find hk21 rfl, lk_find hk21 rfl, trivial⟩ h
          | false =>
            have h := cd_f hb15 h
            refine py_if (pc := 67) (len := 3) false rfl hb15 ?_
            refine py_il (pc := 70) (len := 2) (j := 5) rfl hk7 rfl ?_
            have h := Option.some.inj h
            subst h
            exact py_ir (pc := 72) (len := 1) (ty := .int) rfl rfl rfl hS
noncomputable def fn_M_goesBy (a1 : Int64) (a2 : Int32) (hp : px_H) : Option (Int32 × px_H) :=
  (fn_M_opens (gI hp 69 31) hp).bind fun q1 =>
  fn_M_goesBy_L15 a1 a2 (gI hp 69 31) fu (Int32.ofInt 0) q1
theorem fx_M_goesBy {a1 : Int64} {a2 : Int32} {hp : px_H} {res : Int32 × px_H} (hS : oS hp) (h : fn_M_goesBy a1 a2 hp = some res) : px_C nm_T nm_P mi_M_goesBy [.ref 69, .long a1, .int a2] hp (some (.int res.1)) res.2 ∧ oS res.2 := by
  unfold fn_M_goesBy at h
  refine py_C (M := mm_M_goesBy) rfl (Nat.le_of_ble_eq_true rfl) ?_
  show px_Y mm_M_goesBy 0 [(0, .ref 69), (1, .long a1), (3, .int a2)] [] hp _ _
  refine py_its (pc := 0) (pc1 := 1) (lv1 := [(0, .ref 69), (1, .long a1), (3, .int a2)]) (st1 := [.ref 69]) 1 (fun _ _ _ _ => rfl) ?_
  refine py_gI (pc := 1) (len := 3) (cs := [69]) rfl rfl rfl List.mem_cons_self hS ?_
  refine py_its (pc := 4) (pc1 := 9) (lv1 := [(4, .int (gI hp 69 31)), (0, .ref 69), (1, .long a1), (3, .int a2)]) (st1 := [.int (gI hp 69 31), .ref 69]) 3 (fun _ _ _ _ => rfl) ?_
  obtain ⟨q1, hq2, h⟩ := bd_e h
  obtain ⟨hC3, hS4⟩ := fx_M_opens hS hq2
  refine py_vi (pc := 9) (mi := mi_M_opens) (cs := [69]) (N := mm_M_opens) rfl rfl rfl rfl List.mem_cons_self hS rfl (Nat.le_of_ble_eq_true rfl) (Nat.le_of_ble_eq_true rfl) rfl rfl hC3 ?_
  show px_Y mm_M_goesBy 12 [(4, .int (gI hp 69 31)), (0, .ref 69), (1, .long a1), (3, .int a2)] [] q1 _ _
  refine py_its (pc := 12) (pc1 := 15) (lv1 := [(5, .int (Int32.ofInt 0)), (4, .int (gI hp 69 31)), (0, .ref 69), (1, .long a1), (3, .int a2)]) (st1 := []) 2 (fun _ _ _ _ => rfl) ?_
  exact fl_M_goesBy_L15 fu (Int32.ofInt 0) q1 [(5, .int (Int32.ofInt 0)), (4, .int (gI hp 69 31)), (0, .ref 69), (1, .long a1), (3, .int a2)] _ hS4 ⟨rfl, rfl, rfl, rfl, rfl, trivial⟩ h
/-! M_unpacks -/
noncomputable def fb_M_unpacks_L90  (rc : Int64 → Int32 → px_H → Option (px_H)) (v5 : Int64) (v7 : Int32) (hp : px_H) : Option (px_H) :=
  bif px_cmp .lt v7 0 then
    some hp
  else
    bif px_inR v7 10 then
    sb (uI hp 90 v7.toNatClampNeg (v5 &&& (Int64.ofInt 7)).toInt32) fun h15 =>
    rc (sx_lsr v5 (Int32.ofInt 3)) (v7 + Int32.ofInt (-1)) h15
    else none
noncomputable def fn_M_unpacks_L90  : Nat → Int64 → Int32 → px_H → Option (px_H)
  | 0 => fun _ _ _ => none
  | n + 1 => fb_M_unpacks_L90  (fn_M_unpacks_L90  n)
theorem fl_M_unpacks_L90   : ∀ (n : Nat) (v5 : Int64) (v7 : Int32) (hp : px_H) (lv : List (Nat × Value)) (res : px_H), oS hp → lk lv [(0, .ref 69), (5, .long v5), (7, .int v7)] → fn_M_unpacks_L90  n v5 v7 hp = some res → px_Y mm_M_unpacks 90 lv [] hp none res := by
  intro n
  induction n with
  | zero =>
    intro v5 v7 hp lv res hS hk h
    cases h
  | succ n ih =>
    intro v5 v7 hp lv res hS hk h
    have h : fb_M_unpacks_L90  (fn_M_unpacks_L90  n) v5 v7 hp = some res := h
    unfold fb_M_unpacks_L90 at h
    refine py_il (pc := 90) (len := 2) (j := 7) rfl hk rfl ?_
    cases hb13 : px_cmp .lt v7 0 with
    | true =>
      have h := cd_t hb13 h
      refine py_if (pc := 92) (len := 3) true rfl hb13 ?_
      have h := Option.some.inj h
      subst h
      exact py_rt (pc := 121) (len := 1) rfl rfl hS
    | false =>
      have h := cd_f hb13 h
      refine py_if (pc := 92) (len := 3) false rfl hb13 ?_
      refine py_aln (pc := 95) (len := 1) (j := 0) rfl hk rfl ?_
      refine py_g1 90 (pc := 96) (len := 3) (cs := [69]) rfl rfl rfl List.mem_cons_self hS ?_
      refine py_il (pc := 99) (len := 2) (j := 7) rfl hk rfl ?_
      refine py_ll (pc := 101) (len := 2) (j := 5) rfl hk rfl ?_
      refine py_its (pc := 103) (pc1 := 108) (lv1 := lv) (st1 := [.int (v5 &&& (Int64.ofInt 7)).toInt32, .int v7, .ref 90]) 3 (fun _ _ _ _ => rfl) ?_
      obtain ⟨hi14, h⟩ := cd_n h
      have h := sb_e h
      refine py_si (pc := 108) (len := 1) (cs := [90]) (t := 47) (n := 10) rfl rfl rfl hi14 List.mem_cons_self hS ?_
      have hS16 : oS (uI hp 90 v7.toNatClampNeg (v5 &&& (Int64.ofInt 7)).toInt32) := oS_uI (cs := [90]) (t := 47) (n := 10) rfl List.mem_cons_self hS
      generalize (uI hp 90 v7.toNatClampNeg (v5 &&& (Int64.ofInt 7)).toInt32) = h15 at h hS16 ⊢
      refine py_ll (pc := 109) (len := 2) (j := 5) rfl hk rfl ?_
      refine py_its (pc := 111) (pc1 := 113) (lv1 := lv) (st1 := [.long (sx_lsr v5 (Int32.ofInt 3))]) 2 (fun _ _ _ _ => rfl) ?_
      refine py_stl (pc := 113) (len := 2) (j := 5) rfl rfl hk (fun lv17 hk18 => ?_)
      have hk18 : lk lv17 [(5, .long (sx_lsr v5 (Int32.ofInt 3))), (0, .ref 69), (7, .int v7)] := hk18
      refine py_inc (pc := 115) (len := 3) (j := 7) (n := (-1)) rfl rfl hk18 rfl (fun lv19 hk20 => ?_)
      have hk20 : lk lv19 [(7, .int (v7 + Int32.ofInt (-1))), (5, .long (sx_lsr v5 (Int32.ofInt 3))), (0, .ref 69)] := hk20
      refine py_its (pc := 118) (pc1 := 90) (lv1 := lv19) (st1 := []) 1 (fun _ _ _ _ => rfl) ?_
      exact ih (sx_lsr v5 (Int32.ofInt 3)) (v7 + Int32.ofInt (-1)) h15 lv19 _ hS16 ⟨lk_find hk20 rfl, lk_find hk20 rfl, lk_find hk20 rfl, trivial⟩ h
noncomputable def fn_M_unpacks (a1 : Int64) (a2 : Int64) (hp : px_H) : Option (px_H) :=
  sb (uI hp 88 (Int32.ofInt 0).toNatClampNeg (a1 &&& (Int64.ofInt 1023)).toInt32) fun h1 =>
  sb (uI h1 88 (Int32.ofInt 1).toNatClampNeg ((sx_lsr a1 (Int8.ofInt 10).toInt32) &&& (Int64.ofInt 1023)).toInt32) fun h3 =>
  sb (uI h3 89 (Int32.ofInt 0).toNatClampNeg ((sx_lsr a1 (Int8.ofInt 20).toInt32) &&& (Int64.ofInt 1023)).toInt32) fun h5 =>
  sb (uI h5 89 (Int32.ofInt 1).toNatClampNeg ((sx_lsr a1 (Int8.ofInt 30).toInt32) &&& (Int64.ofInt 1023)).toInt32) fun h7 =>
  sb (wF h7 69 32 (.int ((sx_lsr a1 (Int8.ofInt 40).toInt32) &&& (Int64.ofInt 1023)).toInt32)) fun h9 =>
  sb (wF h9 69 33 (.int ((sx_lsr a1 (Int8.ofInt 50).toInt32) &&& (Int64.ofInt 1023)).toInt32)) fun h11 =>
  fn_M_unpacks_L90 fu a2 (Int8.ofInt 9).toInt32 h11
theorem fx_M_unpacks {a1 : Int64} {a2 : Int64} {hp : px_H} {res : px_H} (hS : oS hp) (h : fn_M_unpacks a1 a2 hp = some res) : px_C nm_T nm_P mi_M_unpacks [.ref 69, .long a1, .long a2] hp none res ∧ oS res := by
  unfold fn_M_unpacks at h
  refine py_C (M := mm_M_unpacks) rfl (Nat.le_of_ble_eq_true rfl) ?_
  show px_Y mm_M_unpacks 0 [(0, .ref 69), (1, .long a1), (3, .long a2)] [] hp _ _
  refine py_its (pc := 0) (pc1 := 1) (lv1 := [(0, .ref 69), (1, .long a1), (3, .long a2)]) (st1 := [.ref 69]) 1 (fun _ _ _ _ => rfl) ?_
  refine py_g1 88 (pc := 1) (len := 3) (cs := [69]) rfl rfl rfl List.mem_cons_self hS ?_
  refine py_its (pc := 4) (pc1 := 11) (lv1 := [(0, .ref 69), (1, .long a1), (3, .long a2)]) (st1 := [.int (a1 &&& (Int64.ofInt 1023)).toInt32, .int (Int32.ofInt 0), .ref 88]) 5 (fun _ _ _ _ => rfl) ?_
  have h := sb_e h
  refine py_si (pc := 11) (len := 1) (cs := [88]) (t := 45) (n := 2) rfl rfl rfl rfl List.mem_cons_self hS ?_
  have hS2 : oS (uI hp 88 (Int32.ofInt 0).toNatClampNeg (a1 &&& (Int64.ofInt 1023)).toInt32) := oS_uI (cs := [88]) (t := 45) (n := 2) rfl List.mem_cons_self hS
  generalize (uI hp 88 (Int32.ofInt 0).toNatClampNeg (a1 &&& (Int64.ofInt 1023)).toInt32) = h1 at h hS2 ⊢
  refine py_its (pc := 12) (pc1 := 13) (lv1 := [(0, .ref 69), (1, .long a1), (3, .long a2)]) (st1 := [.ref 69]) 1 (fun _ _ _ _ => rfl) ?_
  refine py_g1 88 (pc := 13) (len := 3) (cs := [69]) rfl rfl rfl List.mem_cons_self hS2 ?_
  refine py_its (pc := 16) (pc1 := 26) (lv1 := [(0, .ref 69), (1, .long a1), (3, .long a2)]) (st1 := [.int ((sx_lsr a1 (Int8.ofInt 10).toInt32) &&& (Int64.ofInt 1023)).toInt32, .int (Int32.ofInt 1), .ref 88]) 7 (fun _ _ _ _ => rfl) ?_
  have h := sb_e h
  refine py_si (pc := 26) (len := 1) (cs := [88]) (t := 45) (n := 2) rfl rfl rfl rfl List.mem_cons_self hS2 ?_
  have hS4 : oS (uI h1 88 (Int32.ofInt 1).toNatClampNeg ((sx_lsr a1 (Int8.ofInt 10).toInt32) &&& (Int64.ofInt 1023)).toInt32) := oS_uI (cs := [88]) (t := 45) (n := 2) rfl List.mem_cons_self hS2
  generalize (uI h1 88 (Int32.ofInt 1).toNatClampNeg ((sx_lsr a1 (Int8.ofInt 10).toInt32) &&& (Int64.ofInt 1023)).toInt32) = h3 at h hS4 ⊢
  refine py_its (pc := 27) (pc1 := 28) (lv1 := [(0, .ref 69), (1, .long a1), (3, .long a2)]) (st1 := [.ref 69]) 1 (fun _ _ _ _ => rfl) ?_
  refine py_g1 89 (pc := 28) (len := 3) (cs := [69]) rfl rfl rfl List.mem_cons_self hS4 ?_
  refine py_its (pc := 31) (pc1 := 41) (lv1 := [(0, .ref 69), (1, .long a1), (3, .long a2)]) (st1 := [.int ((sx_lsr a1 (Int8.ofInt 20).toInt32) &&& (Int64.ofInt 1023)).toInt32, .int (Int32.ofInt 0), .ref 89]) 7 (fun _ _ _ _ => rfl) ?_
  have h := sb_e h
  refine py_si (pc := 41) (len := 1) (cs := [89]) (t := 46) (n := 2) rfl rfl rfl rfl List.mem_cons_self hS4 ?_
  have hS6 : oS (uI h3 89 (Int32.ofInt 0).toNatClampNeg ((sx_lsr a1 (Int8.ofInt 20).toInt32) &&& (Int64.ofInt 1023)).toInt32) := oS_uI (cs := [89]) (t := 46) (n := 2) rfl List.mem_cons_self hS4
  generalize (uI h3 89 (Int32.ofInt 0).toNatClampNeg ((sx_lsr a1 (Int8.ofInt 20).toInt32) &&& (Int64.ofInt 1023)).toInt32) = h5 at h hS6 ⊢
  refine py_its (pc := 42) (pc1 := 43) (lv1 := [(0, .ref 69), (1, .long a1), (3, .long a2)]) (st1 := [.ref 69]) 1 (fun _ _ _ _ => rfl) ?_
  refine py_g1 89 (pc := 43) (len := 3) (cs := [69]) rfl rfl rfl List.mem_cons_self hS6 ?_
  refine py_its (pc := 46) (pc1 := 56) (lv1 := [(0, .ref 69), (1, .long a1), (3, .long a2)]) (st1 := [.int ((sx_lsr a1 (Int8.ofInt 30).toInt32) &&& (Int64.ofInt 1023)).toInt32, .int (Int32.ofInt 1), .ref 89]) 7 (fun _ _ _ _ => rfl) ?_
  have h := sb_e h
  refine py_si (pc := 56) (len := 1) (cs := [89]) (t := 46) (n := 2) rfl rfl rfl rfl List.mem_cons_self hS6 ?_
  have hS8 : oS (uI h5 89 (Int32.ofInt 1).toNatClampNeg ((sx_lsr a1 (Int8.ofInt 30).toInt32) &&& (Int64.ofInt 1023)).toInt32) := oS_uI (cs := [89]) (t := 46) (n := 2) rfl List.mem_cons_self hS6
  generalize (uI h5 89 (Int32.ofInt 1).toNatClampNeg ((sx_lsr a1 (Int8.ofInt 30).toInt32) &&& (Int64.ofInt 1023)).toInt32) = h7 at h hS8 ⊢
  refine py_its (pc := 57) (pc1 := 67) (lv1 := [(0, .ref 69), (1, .long a1), (3, .long a2)]) (st1 := [.int ((sx_lsr a1 (Int8.ofInt 40).toInt32) &&& (Int64.ofInt 1023)).toInt32, .ref 69]) 7 (fun _ _ _ _ => rfl) ?_
  have h := sb_e h
  refine py_pI (pc := 67) (len := 3) (cs := [69]) rfl rfl rfl List.mem_cons_self hS8 rfl rfl rfl rfl ?_
  have hS10 : oS (wF h7 69 32 (.int ((sx_lsr a1 (Int8.ofInt 40).toInt32) &&& (Int64.ofInt 1023)).toInt32)) := oS_wI (cs := [69]) (ci := 9) rfl List.mem_cons_self hS8
  generalize (wF h7 69 32 (.int ((sx_lsr a1 (Int8.ofInt 40).toInt32) &&& (Int64.ofInt 1023)).toInt32)) = h9 at h hS10 ⊢
  refine py_its (pc := 70) (pc1 := 80) (lv1 := [(0, .ref 69), (1, .long a1), (3, .long a2)]) (st1 := [.int ((sx_lsr a1 (Int8.ofInt 50).toInt32) &&& (Int64.ofInt 1023)).toInt32, .ref 69]) 7 (fun _ _ _ _ => rfl) ?_
  have h := sb_e h
  refine py_pI (pc := 80) (len := 3) (cs := [69]) rfl rfl rfl List.mem_cons_self hS10 rfl rfl rfl rfl ?_
  have hS12 : oS (wF h9 69 33 (.int ((sx_lsr a1 (Int8.ofInt 50).toInt32) &&& (Int64.ofInt 1023)).toInt32)) := oS_wI (cs := [69]) (ci := 9) rfl List.mem_cons_self hS10
  generalize (wF h9 69 33 (.int ((sx_lsr a1 (Int8.ofInt 50).toInt32) &&& (Int64.ofInt 1023)).toInt32)) = h11 at h hS12 ⊢
  refine py_its (pc := 83) (pc1 := 90) (lv1 := [(7, .int (Int8.ofInt 9).toInt32), (5, .long a2), (0, .ref 69), (1, .long a1), (3, .long a2)]) (st1 := []) 4 (fun _ _ _ _ => rfl) ?_
  exact fl_M_unpacks_L90 fu a2 (Int8.ofInt 9).toInt32 h11 [(7, .int (Int8.ofInt 9).toInt32), (5, .long a2), (0, .ref 69), (1, .long a1), (3, .long a2)] _ hS12 ⟨rfl, rfl, rfl, trivial⟩ h
/-! M_comesBack -/
noncomputable def fn_M_comesBack  (hp : px_H) : Option (px_H) :=
  (fn_M_unpacks (gL hp 69 34) (gL hp 69 35) hp).bind fun q1 =>
  sb (wF q1 69 31 (.int (gI q1 69 36))) fun h5 =>
  some h5
theorem fx_M_comesBack  {hp : px_H} {res : px_H} (hS : oS hp) (h : fn_M_comesBack hp = some res) : px_C nm_T nm_P mi_M_comesBack [.ref 69] hp none res ∧ oS res := by
  unfold fn_M_comesBack at h
  refine py_C (M := mm_M_comesBack) rfl (Nat.le_of_ble_eq_true rfl) ?_
  show px_Y mm_M_comesBack 0 [(0, .ref 69)] [] hp _ _
  refine py_its (pc := 0) (pc1 := 2) (lv1 := [(0, .ref 69)]) (st1 := [.ref 69, .ref 69]) 2 (fun _ _ _ _ => rfl) ?_
  refine py_gL (pc := 2) (len := 3) (cs := [69]) rfl rfl rfl List.mem_cons_self hS ?_
  refine py_its (pc := 5) (pc1 := 6) (lv1 := [(0, .ref 69)]) (st1 := [.ref 69, .long (gL hp 69 34), .ref 69]) 1 (fun _ _ _ _ => rfl) ?_
  refine py_gL (pc := 6) (len := 3) (cs := [69]) rfl rfl rfl List.mem_cons_self hS ?_
  obtain ⟨q1, hq2, h⟩ := bd_e h
  obtain ⟨hC3, hS4⟩ := fx_M_unpacks hS hq2
  refine py_vi (pc := 9) (mi := mi_M_unpacks) (cs := [69]) (N := mm_M_unpacks) rfl rfl rfl rfl List.mem_cons_self hS rfl (Nat.le_of_ble_eq_true rfl) (Nat.le_of_ble_eq_true rfl) rfl rfl hC3 ?_
  show px_Y mm_M_comesBack 12 [(0, .ref 69)] [] q1 _ _
  refine py_its (pc := 12) (pc1 := 14) (lv1 := [(0, .ref 69)]) (st1 := [.ref 69, .ref 69]) 2 (fun _ _ _ _ => rfl) ?_
  refine py_gI (pc := 14) (len := 3) (cs := [69]) rfl rfl rfl List.mem_cons_self hS4 ?_
  have h := sb_e h
  refine py_pI (pc := 17) (len := 3) (cs := [69]) rfl rfl rfl List.mem_cons_self hS4 rfl rfl rfl rfl ?_
  have hS6 : oS (wF q1 69 31 (.int (gI q1 69 36))) := oS_wI (cs := [69]) (ci := 9) rfl List.mem_cons_self hS4
  generalize (wF q1 69 31 (.int (gI q1 69 36))) = h5 at h hS6 ⊢
  have h := Option.some.inj h
  subst h
  exact py_rt (pc := 20) (len := 1) rfl rfl hS6
/-! M_judge -/
noncomputable def fn_M_judge (a1 : Int64) (a2 : Int32) (hp : px_H) : Option (Int32 × px_H) :=
  sb (wF hp 69 0 (.int (Int32.ofInt 0))) fun h1 =>
  bif px_cmp .eq (sx_in a2.toInt64 (Int64.ofNat 0) (Int64.ofInt 10)) 0 then
    some ((Int32.ofInt (-1)), h1)
  else
    bif px_cmp .lt (gI h1 69 31) (gI h1 69 11) then
      (fn_M_remembers h1).bind fun q5 =>
      (fn_M_goesBy a1 a2 q5).bind fun q9 =>
      (fn_M_comesBack q9.2).bind fun q13 =>
      some (q9.1, q13)
    else
      some ((Int32.ofInt (-1)), h1)
theorem fx_M_judge {a1 : Int64} {a2 : Int32} {hp : px_H} {res : Int32 × px_H} (hS : oS hp) (h : fn_M_judge a1 a2 hp = some res) : px_C nm_T nm_P mi_M_judge [.ref 69, .long a1, .int a2] hp (some (.int res.1)) res.2 ∧ oS res.2 := by
  unfold fn_M_judge at h
  refine py_C (M := mm_M_judge) rfl (Nat.le_of_ble_eq_true rfl) ?_
  show px_Y mm_M_judge 0 [(0, .ref 69), (1, .long a1), (3, .int a2)] [] hp _ _
  refine py_its (pc := 0) (pc1 := 2) (lv1 := [(0, .ref 69), (1, .long a1), (3, .int a2)]) (st1 := [.int (Int32.ofInt 0), .ref 69]) 2 (fun _ _ _ _ => rfl) ?_
  have h := sb_e h
  refine py_pI (pc := 2) (len := 3) (cs := [69]) rfl rfl rfl List.mem_cons_self hS rfl rfl rfl rfl ?_
  have hS2 : oS (wF hp 69 0 (.int (Int32.ofInt 0))) := oS_wI (cs := [69]) (ci := 9) rfl List.mem_cons_self hS
  generalize (wF hp 69 0 (.int (Int32.ofInt 0))) = h1 at h hS2 ⊢
  refine py_its (pc := 5) (pc1 := 11) (lv1 := [(0, .ref 69), (1, .long a1), (3, .int a2)]) (st1 := [.long (Int64.ofInt 10), .long (Int64.ofNat 0), .long a2.toInt64]) 4 (fun _ _ _ _ => rfl) ?_
  refine py_st (pc := 11) (mi := mi_M_in) (N := mm_M_in) rfl rfl rfl (Nat.le_of_ble_eq_true rfl) (Nat.le_of_ble_eq_true rfl) rfl rfl (sx_in_C a2.toInt64 (Int64.ofNat 0) (Int64.ofInt 10) h1) ?_
  show px_Y mm_M_judge 14 [(0, .ref 69), (1, .long a1), (3, .int a2)] [.int (sx_in a2.toInt64 (Int64.ofNat 0) (Int64.ofInt 10))] h1 _ _
  cases hb3 : px_cmp .eq (sx_in a2.toInt64 (Int64.ofNat 0) (Int64.ofInt 10)) 0 with
  | true =>
    have h := cd_t hb3 h
    refine py_if (pc := 14) (len := 3) true rfl hb3 ?_
    refine py_its (pc := 28) (pc1 := 29) (lv1 := [(0, .ref 69), (1, .long a1), (3, .int a2)]) (st1 := [.int (Int32.ofInt (-1))]) 1 (fun _ _ _ _ => rfl) ?_
    have h := Option.some.inj h
    subst h
    exact py_ir (pc := 29) (len := 1) (ty := .int) rfl rfl rfl hS2
  | false =>
    have h := cd_f hb3 h
    refine py_if (pc := 14) (len := 3) false rfl hb3 ?_
    refine py_its (pc := 17) (pc1 := 18) (lv1 := [(0, .ref 69), (1, .long a1), (3, .int a2)]) (st1 := [.ref 69]) 1 (fun _ _ _ _ => rfl) ?_
    refine py_gI (pc := 18) (len := 3) (cs := [69]) rfl rfl rfl List.mem_cons_self hS2 ?_
    refine py_its (pc := 21) (pc1 := 22) (lv1 := [(0, .ref 69), (1, .long a1), (3, .int a2)]) (st1 := [.ref 69, .int (gI h1 69 31)]) 1 (fun _ _ _ _ => rfl) ?_
    refine py_gI (pc := 22) (len := 3) (cs := [69]) rfl rfl rfl List.mem_cons_self hS2 ?_
    cases hb4 : px_cmp .lt (gI h1 69 31) (gI h1 69 11) with
    | true =>
      have h := cd_t hb4 h
      refine py_ic (pc := 25) (len := 3) true rfl hb4 ?_
      refine py_its (pc := 30) (pc1 := 31) (lv1 := [(0, .ref 69), (1, .long a1), (3, .int a2)]) (st1 := [.ref 69]) 1 (fun _ _ _ _ => rfl) ?_
      obtain ⟨q5, hq6, h⟩ := bd_e h
      obtain ⟨hC7, hS8⟩ := fx_M_remembers hS2 hq6
      refine py_vi (pc := 31) (mi := mi_M_remembers) (cs := [69]) (N := mm_M_remembers) rfl rfl rfl rfl List.mem_cons_self hS2 rfl (Nat.le_of_ble_eq_true rfl) (Nat.le_of_ble_eq_true rfl) rfl rfl hC7 ?_
      show px_Y mm_M_judge 34 [(0, .ref 69), (1, .long a1), (3, .int a2)] [] q5 _ _
      refine py_its (pc := 34) (pc1 := 37) (lv1 := [(0, .ref 69), (1, .long a1), (3, .int a2)]) (st1 := [.int a2, .long a1, .ref 69]) 3 (fun _ _ _ _ => rfl) ?_
      obtain ⟨q9, hq10, h⟩ := bd_e h
      obtain ⟨hC11, hS12⟩ := fx_M_goesBy hS8 hq10
      refine py_vi (pc := 37) (mi := mi_M_goesBy) (cs := [69]) (N := mm_M_goesBy) rfl rfl rfl rfl List.mem_cons_self hS8 rfl (Nat.le_of_ble_eq_true rfl) (Nat.le_of_ble_eq_true rfl) rfl rfl hC11 ?_
      show px_Y mm_M_judge 40 [(0, .ref 69), (1, .long a1), (3, .int a2)] [.int q9.1] q9.2 _ _
      refine py_its (pc := 40) (pc1 := 43) (lv1 := [(4, .int q9.1), (0, .ref 69), (1, .long a1), (3, .int a2)]) (st1 := [.ref 69]) 2 (fun _ _ _ _ => rfl) ?_
      obtain ⟨q13, hq14, h⟩ := bd_e h
      obtain ⟨hC15, hS16⟩ := fx_M_comesBack hS12 hq14
      refine py_vi (pc := 43) (mi := mi_M_comesBack) (cs := [69]) (N := mm_M_comesBack) rfl rfl rfl rfl List.mem_cons_self hS12 rfl (Nat.le_of_ble_eq_true rfl) (Nat.le_of_ble_eq_true rfl) rfl rfl hC15 ?_
      show px_Y mm_M_judge 46 [(4, .int q9.1), (0, .ref 69), (1, .long a1), (3, .int a2)] [] q13 _ _
      refine py_its (pc := 46) (pc1 := 48) (lv1 := [(4, .int q9.1), (0, .ref 69), (1, .long a1), (3, .int a2)]) (st1 := [.int q9.1]) 1 (fun _ _ _ _ => rfl) ?_
      have h := Option.some.inj h
      subst h
      exact py_ir (pc := 48) (len := 1) (ty := .int) rfl rfl rfl hS16
    | false =>
      have h := cd_f hb4 h
      refine py_ic (pc := 25) (len := 3) false rfl hb4 ?_
      refine py_its (pc := 28) (pc1 := 29) (lv1 := [(0, .ref 69), (1, .long a1), (3, .int a2)]) (st1 := [.int (Int32.ofInt (-1))]) 1 (fun _ _ _ _ => rfl) ?_
      have h := Option.some.inj h
      subst h
      exact py_ir (pc := 29) (len := 1) (ty := .int) rfl rfl rfl hS2
/-! M_hold -/
noncomputable def fn_M_hold (a1 : Int64) (a2 : Int32) (hp : px_H) : Option (Int32 × px_H) :=
  sb (wF hp 69 0 (.int (Int32.ofInt 0))) fun h1 =>
  bif px_cmp .eq (sx_in a2.toInt64 (Int64.ofNat 0) (Int64.ofInt 10)) 0 then
    some ((Int32.ofInt 0), h1)
  else
    bif px_cmp .lt (gI h1 69 31) (gI h1 69 11) then
      (fn_M_remembers h1).bind fun q5 =>
      (fn_M_goesBy a1 a2 q5).bind fun q9 =>
      bif px_cmp .lt q9.1 a2 then
        (fn_M_comesBack q9.2).bind fun q14 =>
        some ((Int32.ofInt 0), q14)
      else
        (fn_M_isOver (gI q5 69 31) q9.2).bind fun q18 =>
        bif px_cmp .ne q18 0 then
          (fn_M_closes (gI q5 69 31) q9.2).bind fun q22 =>
          some ((Int32.ofInt 1), q22)
        else
          (fn_M_comesBack q9.2).bind fun q26 =>
          some ((Int32.ofInt 0), q26)
    else
      some ((Int32.ofInt 0), h1)
theorem fx_M_hold {a1 : Int64} {a2 : Int32} {hp : px_H} {res : Int32 × px_H} (hS : oS hp) (h : fn_M_hold a1 a2 hp = some res) : px_C nm_T nm_P mi_M_hold [.ref 69, .long a1, .int a2] hp (some (.int res.1)) res.2 ∧ oS res.2 := by
  unfold fn_M_hold at h
  refine py_C (M := mm_M_hold) rfl (Nat.le_of_ble_eq_true rfl) ?_
  show px_Y mm_M_hold 0 [(0, .ref 69), (1, .long a1), (3, .int a2)] [] hp _ _
  refine py_its (pc := 0) (pc1 := 2) (lv1 := [(0, .ref 69), (1, .long a1), (3, .int a2)]) (st1 := [.int (Int32.ofInt 0), .ref 69]) 2 (fun _ _ _ _ => rfl) ?_
  have h := sb_e h
  refine py_pI (pc := 2) (len := 3) (cs := [69]) rfl rfl rfl List.mem_cons_self hS rfl rfl rfl rfl ?_
  have hS2 : oS (wF hp 69 0 (.int (Int32.ofInt 0))) := oS_wI (cs := [69]) (ci := 9) rfl List.mem_cons_self hS
  generalize (wF hp 69 0 (.int (Int32.ofInt 0))) = h1 at h hS2 ⊢
  refine py_its (pc := 5) (pc1 := 11) (lv1 := [(0, .ref 69), (1, .long a1), (3, .int a2)]) (st1 := [.long (Int64.ofInt 10), .long (Int64.ofNat 0), .long a2.toInt64]) 4 (fun _ _ _ _ => rfl) ?_
  refine py_st (pc := 11) (mi := mi_M_in) (N := mm_M_in) rfl rfl rfl (Nat.le_of_ble_eq_true rfl) (Nat.le_of_ble_eq_true rfl) rfl rfl (sx_in_C a2.toInt64 (Int64.ofNat 0) (Int64.ofInt 10) h1) ?_
  show px_Y mm_M_hold 14 [(0, .ref 69), (1, .long a1), (3, .int a2)] [.int (sx_in a2.toInt64 (Int64.ofNat 0) (Int64.ofInt 10))] h1 _ _
  cases hb3 : px_cmp .eq (sx_in a2.toInt64 (Int64.ofNat 0) (Int64.ofInt 10)) 0 with
  | true =>
    have h := cd_t hb3 h
    refine py_if (pc := 14) (len := 3) true rfl hb3 ?_
    refine py_its (pc := 28) (pc1 := 29) (lv1 := [(0, .ref 69), (1, .long a1), (3, .int a2)]) (st1 := [.int (Int32.ofInt 0)]) 1 (fun _ _ _ _ => rfl) ?_
    have h := Option.some.inj h
    subst h
    exact py_ir (pc := 29) (len := 1) (ty := .boolean) rfl rfl (by decide) hS2
  | false =>
    have h := cd_f hb3 h
    refine py_if (pc := 14) (len := 3) false rfl hb3 ?_
    refine py_its (pc := 17) (pc1 := 18) (lv1 := [(0, .ref 69), (1, .long a1), (3, .int a2)]) (st1 := [.ref 69]) 1 (fun _ _ _ _ => rfl) ?_
    refine py_gI (pc := 18) (len := 3) (cs := [69]) rfl rfl rfl List.mem_cons_self hS2 ?_
    refine py_its (pc := 21) (pc1 := 22) (lv1 := [(0, .ref 69), (1, .long a1), (3, .int a2)]) (st1 := [.ref 69, .int (gI h1 69 31)]) 1 (fun _ _ _ _ => rfl) ?_
    refine py_gI (pc := 22) (len := 3) (cs := [69]) rfl rfl rfl List.mem_cons_self hS2 ?_
    cases hb4 : px_cmp .lt (gI h1 69 31) (gI h1 69 11) with
    | true =>
      have h := cd_t hb4 h
      refine py_ic (pc := 25) (len := 3) true rfl hb4 ?_
      refine py_its (pc := 30) (pc1 := 31) (lv1 := [(0, .ref 69), (1, .long a1), (3, .int a2)]) (st1 := [.ref 69]) 1 (fun _ _ _ _ => rfl) ?_
      obtain ⟨q5, hq6, h⟩ := bd_e h
      obtain ⟨hC7, hS8⟩ := fx_M_remembers hS2 hq6
      refine py_vi (pc := 31) (mi := mi_M_remembers) (cs := [69]) (N := mm_M_remembers) rfl rfl rfl rfl List.mem_cons_self hS2 rfl (Nat.le_of_ble_eq_true rfl) (Nat.le_of_ble_eq_true rfl) rfl rfl hC7 ?_
      show px_Y mm_M_hold 34 [(0, .ref 69), (1, .long a1), (3, .int a2)] [] q5 _ _
      refine py_its (pc := 34) (pc1 := 35) (lv1 := [(0, .ref 69), (1, .long a1), (3, .int a2)]) (st1 := [.ref 69]) 1 (fun _ _ _ _ => rfl) ?_
      refine py_gI (pc := 35) (len := 3) (cs := [69]) rfl rfl rfl List.mem_cons_self hS8 ?_
      refine py_its (pc := 38) (pc1 := 43) (lv1 := [(4, .int (gI q5 69 31)), (0, .ref 69), (1, .long a1), (3, .int a2)]) (st1 := [.int a2, .long a1, .ref 69]) 4 (fun _ _ _ _ => rfl) ?_
      obtain ⟨q9, hq10, h⟩ := bd_e h
      obtain ⟨hC11, hS12⟩ := fx_M_goesBy hS8 hq10
      refine py_vi (pc := 43) (mi := mi_M_goesBy) (cs := [69]) (N := mm_M_goesBy) rfl rfl rfl rfl List.mem_cons_self hS8 rfl (Nat.le_of_ble_eq_true rfl) (Nat.le_of_ble_eq_true rfl) rfl rfl hC11 ?_
      show px_Y mm_M_hold 46 [(4, .int (gI q5 69 31)), (0, .ref 69), (1, .long a1), (3, .int a2)] [.int q9.1] q9.2 _ _
      refine py_its (pc := 46) (pc1 := 47) (lv1 := [(4, .int (gI q5 69 31)), (0, .ref 69), (1, .long a1), (3, .int a2)]) (st1 := [.int a2, .int q9.1]) 1 (fun _ _ _ _ => rfl) ?_
      cases hb13 : px_cmp .lt q9.1 a2 with
      | true =>
        have h := cd_t hb13 h
        refine py_ic (pc := 47) (len := 3) true rfl hb13 ?_
        refine py_its (pc := 59) (pc1 := 60) (lv1 := [(4, .int (gI q5 69 31)), (0, .ref 69), (1, .long a1), (3, .int a2)]) (st1 := [.ref 69]) 1 (fun _ _ _ _ => rfl) ?_
        obtain ⟨q14, hq15, h⟩ := bd_e h
        obtain ⟨hC16, hS17⟩ := fx_M_comesBack hS12 hq15
        refine py_vi (pc := 60) (mi := mi_M_comesBack) (cs := [69]) (N := mm_M_comesBack) rfl rfl rfl rfl List.mem_cons_self hS12 rfl (Nat.le_of_ble_eq_true rfl) (Nat.le_of_ble_eq_true rfl) rfl rfl hC16 ?_
        show px_Y mm_M_hold 63 [(4, .int (gI q5 69 31)), (0, .ref 69), (1, .long a1), (3, .int a2)] [] q14 _ _
        refine py_its (pc := 63) (pc1 := 64) (lv1 := [(4, .int (gI q5 69 31)), (0, .ref 69), (1, .long a1), (3, .int a2)]) (st1 := [.int (Int32.ofInt 0)]) 1 (fun _ _ _ _ => rfl) ?_
        have h := Option.some.inj h
        subst h
        exact py_ir (pc := 64) (len := 1) (ty := .boolean) rfl rfl (by decide) hS17
      | false =>
        have h := cd_f hb13 h
        refine py_ic (pc := 47) (len := 3) false rfl hb13 ?_
        refine py_its (pc := 50) (pc1 := 53) (lv1 := [(4, .int (gI q5 69 31)), (0, .ref 69), (1, .long a1), (3, .int a2)]) (st1 := [.int (gI q5 69 31), .ref 69]) 2 (fun _ _ _ _ => rfl) ?_
        obtain ⟨q18, hq19, h⟩ := bd_e h
        have hC20 := (fx_M_isOver hS12 hq19).1
        refine py_vi (pc := 53) (mi := mi_M_isOver) (cs := [69]) (N := mm_M_isOver) rfl rfl rfl rfl List.mem_cons_self hS12 rfl (Nat.le_of_ble_eq_true rfl) (Nat.le_of_ble_eq_true rfl) rfl rfl hC20 ?_
        show px_Y mm_M_hold 56 [(4, .int (gI q5 69 31)), (0, .ref 69), (1, .long a1), (3, .int a2)] [.int q18] q9.2 _ _
        cases hb21 : px_cmp .ne q18 0 with
        | true =>
          have h := cd_t hb21 h
          refine py_if (pc := 56) (len := 3) true rfl hb21 ?_
          refine py_its (pc := 65) (pc1 := 68) (lv1 := [(4, .int (gI q5 69 31)), (0, .ref 69), (1, .long a1), (3, .int a2)]) (st1 := [.int (gI q5 69 31), .ref 69]) 2 (fun _ _ _ _ => rfl) ?_
          obtain ⟨q22, hq23, h⟩ := bd_e h
          obtain ⟨hC24, hS25⟩ := fx_M_closes hS12 hq23
          refine py_vi (pc := 68) (mi := mi_M_closes) (cs := [69]) (N := mm_M_closes) rfl rfl rfl rfl List.mem_cons_self hS12 rfl (Nat.le_of_ble_eq_true rfl) (Nat.le_of_ble_eq_true rfl) rfl rfl hC24 ?_
          show px_Y mm_M_hold 71 [(4, .int (gI q5 69 31)), (0, .ref 69), (1, .long a1), (3, .int a2)] [] q22 _ _
          refine py_its (pc := 71) (pc1 := 72) (lv1 := [(4, .int (gI q5 69 31)), (0, .ref 69), (1, .long a1), (3, .int a2)]) (st1 := [.int (Int32.ofInt 1)]) 1 (fun _ _ _ _ => rfl) ?_
          have h := Option.some.inj h
          subst h
          exact py_ir (pc := 72) (len := 1) (ty := .boolean) rfl rfl (by decide) hS25
        | false =>
          have h := cd_f hb21 h
          refine py_if (pc := 56) (len := 3) false rfl hb21 ?_
          refine py_its (pc := 59) (pc1 := 60) (lv1 := [(4, .int (gI q5 69 31)), (0, .ref 69), (1, .long a1), (3, .int a2)]) (st1 := [.ref 69]) 1 (fun _ _ _ _ => rfl) ?_
          obtain ⟨q26, hq27, h⟩ := bd_e h
          obtain ⟨hC28, hS29⟩ := fx_M_comesBack hS12 hq27
          refine py_vi (pc := 60) (mi := mi_M_comesBack) (cs := [69]) (N := mm_M_comesBack) rfl rfl rfl rfl List.mem_cons_self hS12 rfl (Nat.le_of_ble_eq_true rfl) (Nat.le_of_ble_eq_true rfl) rfl rfl hC28 ?_
          show px_Y mm_M_hold 63 [(4, .int (gI q5 69 31)), (0, .ref 69), (1, .long a1), (3, .int a2)] [] q26 _ _
          refine py_its (pc := 63) (pc1 := 64) (lv1 := [(4, .int (gI q5 69 31)), (0, .ref 69), (1, .long a1), (3, .int a2)]) (st1 := [.int (Int32.ofInt 0)]) 1 (fun _ _ _ _ => rfl) ?_
          have h := Option.some.inj h
          subst h
          exact py_ir (pc := 64) (len := 1) (ty := .boolean) rfl rfl (by decide) hS29
    | false =>
      have h := cd_f hb4 h
      refine py_ic (pc := 25) (len := 3) false rfl hb4 ?_
      refine py_its (pc := 28) (pc1 := 29) (lv1 := [(0, .ref 69), (1, .long a1), (3, .int a2)]) (st1 := [.int (Int32.ofInt 0)]) 1 (fun _ _ _ _ => rfl) ?_
      have h := Option.some.inj h
      subst h
      exact py_ir (pc := 29) (len := 1) (ty := .boolean) rfl rfl (by decide) hS2
/-! M_isAsBefore -/
noncomputable def fb_M_isAsBefore_L34  (rc : Int32 → px_H → Option (px_H)) (v1 : Int32) (hp : px_H) : Option (px_H) :=
  bif px_cmp .ge v1 (Int8.ofInt 10).toInt32 then
    sb (wF hp 69 32 (.int (Int32.ofInt 0))) fun h14 =>
    sb (wF h14 69 33 (.int (Int32.ofInt 0))) fun h16 =>
    sb (wF h16 69 31 (.int (Int32.ofInt 0))) fun h18 =>
    some h18
  else
    bif px_inR v1 10 then
    sb (uI hp 90 v1.toNatClampNeg (Int32.ofInt 0)) fun h21 =>
    rc (v1 + Int32.ofInt 1) h21
    else none
noncomputable def fn_M_isAsBefore_L34  : Nat → Int32 → px_H → Option (px_H)
  | 0 => fun _ _ => none
  | n + 1 => fb_M_isAsBefore_L34  (fn_M_isAsBefore_L34  n)
theorem fl_M_isAsBefore_L34   : ∀ (n : Nat) (v1 : Int32) (hp : px_H) (lv : List (Nat × Value)) (res : px_H), oS hp → lk lv [(0, .ref 69), (1, .int v1)] → fn_M_isAsBefore_L34  n v1 hp = some res → px_Y mm_M_isAsBefore 34 lv [] hp none res := by
  intro n
  induction n with
  | zero =>
    intro v1 hp lv res hS hk h
    cases h
  | succ n ih =>
    intro v1 hp lv res hS hk h
    have h : fb_M_isAsBefore_L34  (fn_M_isAsBefore_L34  n) v1 hp = some res := h
    unfold fb_M_isAsBefore_L34 at h
    refine py_iln (pc := 34) (len := 1) (j := 1) rfl hk rfl ?_
    refine py_its (pc := 35) (pc1 := 37) (lv1 := lv) (st1 := [.int (Int8.ofInt 10).toInt32, .int v1]) 1 (fun _ _ _ _ => rfl) ?_
    cases hb13 : px_cmp .ge v1 (Int8.ofInt 10).toInt32 with
    | true =>
      have h := cd_t hb13 h
      refine py_ic (pc := 37) (len := 3) true rfl hb13 ?_
      refine py_aln (pc := 53) (len := 1) (j := 0) rfl hk rfl ?_
      refine py_its (pc := 54) (pc1 := 55) (lv1 := lv) (st1 := [.int (Int32.ofInt 0), .ref 69]) 1 (fun _ _ _ _ => rfl) ?_
      have h := sb_e h
      refine py_pI (pc := 55) (len := 3) (cs := [69]) rfl rfl rfl List.mem_cons_self hS rfl rfl rfl rfl ?_
      have hS15 : oS (wF hp 69 32 (.int (Int32.ofInt 0))) := oS_wI (cs := [69]) (ci := 9) rfl List.mem_cons_self hS
      generalize (wF hp 69 32 (.int (Int32.ofInt 0))) = h14 at h hS15 ⊢
      refine py_aln (pc := 58) (len := 1) (j := 0) rfl hk rfl ?_
      refine py_its (pc := 59) (pc1 := 60) (lv1 := lv) (st1 := [.int (Int32.ofInt 0), .ref 69]) 1 (fun _ _ _ _ => rfl) ?_
      have h := sb_e h
      refine py_pI (pc := 60) (len := 3) (cs := [69]) rfl rfl rfl List.mem_cons_self hS15 rfl rfl rfl rfl ?_
      have hS17 : oS (wF h14 69 33 (.int (Int32.ofInt 0))) := oS_wI (cs := [69]) (ci := 9) rfl List.mem_cons_self hS15
      generalize (wF h14 69 33 (.int (Int32.ofInt 0))) = h16 at h hS17 ⊢
      refine py_aln (pc := 63) (len := 1) (j := 0) rfl hk rfl ?_
      refine py_its (pc := 64) (pc1 := 65) (lv1 := lv) (st1 := [.int (Int32.ofInt 0), .ref 69]) 1 (fun _ _ _ _ => rfl) ?_
      have h := sb_e h
      refine py_pI (pc := 65) (len := 3) (cs := [69]) rfl rfl rfl List.mem_cons_self hS17 rfl rfl rfl rfl ?_
      have hS19 : oS (wF h16 69 31 (.int (Int32.ofInt 0))) := oS_wI (cs := [69]) (ci := 9) rfl List.mem_cons_self hS17
      generalize (wF h16 69 31 (.int (Int32.ofInt 0))) = h18 at h hS19 ⊢
      have h := Option.some.inj h
      subst h
      exact py_rt (pc := 68) (len := 1) rfl rfl hS19
    | false =>
      have h := cd_f hb13 h
      refine py_ic (pc := 37) (len := 3) false rfl hb13 ?_
      refine py_aln (pc := 40) (len := 1) (j := 0) rfl hk rfl ?_
      refine py_g1 90 (pc := 41) (len := 3) (cs := [69]) rfl rfl rfl List.mem_cons_self hS ?_
      refine py_iln (pc := 44) (len := 1) (j := 1) rfl hk rfl ?_
      refine py_its (pc := 45) (pc1 := 46) (lv1 := lv) (st1 := [.int (Int32.ofInt 0), .int v1, .ref 90]) 1 (fun _ _ _ _ => rfl) ?_
      obtain ⟨hi20, h⟩ := cd_n h
      have h := sb_e h
      refine py_si (pc := 46) (len := 1) (cs := [90]) (t := 47) (n := 10) rfl rfl rfl hi20 List.mem_cons_self hS ?_
      have hS22 : oS (uI hp 90 v1.toNatClampNeg (Int32.ofInt 0)) := oS_uI (cs := [90]) (t := 47) (n := 10) rfl List.mem_cons_self hS
      generalize (uI hp 90 v1.toNatClampNeg (Int32.ofInt 0)) = h21 at h hS22 ⊢
      refine py_inc (pc := 47) (len := 3) (j := 1) (n := 1) rfl rfl hk rfl (fun lv23 hk24 => ?_)
      have hk24 : lk lv23 [(1, .int (v1 + Int32.ofInt 1)), (0, .ref 69)] := hk24
      refine py_its (pc := 50) (pc1 := 34) (lv1 := lv23) (st1 := []) 1 (fun _ _ _ _ => rfl) ?_
      exact ih (v1 + Int32.ofInt 1) h21 lv23 _ hS22 ⟨lk_find hk24 rfl, lk_find hk24 rfl, trivial⟩ h
noncomputable def fb_M_isAsBefore_L2  (rc : Int32 → px_H → Option (px_H)) (v1 : Int32) (hp : px_H) : Option (px_H) :=
  bif px_cmp .ge v1 (Int32.ofInt 2) then
    fn_M_isAsBefore_L34 fu (Int32.ofInt 0) hp
  else
    bif px_inR v1 2 then
    bif px_inR v1 2 then
    sb (uI hp 88 v1.toNatClampNeg (aI hp 76 v1.toNatClampNeg)) fun h6 =>
    bif px_inR v1 2 then
    sb (uI h6 89 v1.toNatClampNeg (Int32.ofInt 0)) fun h9 =>
    rc (v1 + Int32.ofInt 1) h9
    else none
    else none
    else none
noncomputable def fn_M_isAsBefore_L2  : Nat → Int32 → px_H → Option (px_H)
  | 0 => fun _ _ => none
  | n + 1 => fb_M_isAsBefore_L2  (fn_M_isAsBefore_L2  n)
theorem fl_M_isAsBefore_L2   : ∀ (n : Nat) (v1 : Int32) (hp : px_H) (lv : List (Nat × Value)) (res : px_H), oS hp → lk lv [(0, .ref 69), (1, .int v1)] → fn_M_isAsBefore_L2  n v1 hp = some res → px_Y mm_M_isAsBefore 2 lv [] hp none res := by
  intro n
  induction n with
  | zero =>
    intro v1 hp lv res hS hk h
    cases h
  | succ n ih =>
    intro v1 hp lv res hS hk h
    have h : fb_M_isAsBefore_L2  (fn_M_isAsBefore_L2  n) v1 hp = some res := h
    unfold fb_M_isAsBefore_L2 at h
    refine py_iln (pc := 2) (len := 1) (j := 1) rfl hk rfl ?_
    refine py_its (pc := 3) (pc1 := 4) (lv1 := lv) (st1 := [.int (Int32.ofInt 2), .int v1]) 1 (fun _ _ _ _ => rfl) ?_
    cases hb1 : px_cmp .ge v1 (Int32.ofInt 2) with
    | true =>
      have h := cd_t hb1 h
      refine py_ic (pc := 4) (len := 3) true rfl hb1 ?_
      refine py_its (pc := 32) (pc1 := 33) (lv1 := lv) (st1 := [.int (Int32.ofInt 0)]) 1 (fun _ _ _ _ => rfl) ?_
      refine py_sin (pc := 33) (len := 1) (j := 1) rfl rfl hk (fun lv2 hk3 => ?_)
      have hk3 : lk lv2 [(1, .int (Int32.ofInt 0)), (0, .ref 69)] := hk3
      exact fl_M_isAsBefore_L34 fu (Int32.ofInt 0) hp lv2 _ hS ⟨lk_find hk3 rfl, lk_find hk3 rfl, trivial⟩ h
    | false =>
      have h := cd_f hb1 h
      refine py_ic (pc := 4) (len := 3) false rfl hb1 ?_
      refine py_aln (pc := 7) (len := 1) (j := 0) rfl hk rfl ?_
      refine py_g1 88 (pc := 8) (len := 3) (cs := [69]) rfl rfl rfl List.mem_cons_self hS ?_
      refine py_iln (pc := 11) (len := 1) (j := 1) rfl hk rfl ?_
      refine py_aln (pc := 12) (len := 1) (j := 0) rfl hk rfl ?_
      refine py_g1 76 (pc := 13) (len := 3) (cs := [69]) rfl rfl rfl List.mem_cons_self hS ?_
      refine py_iln (pc := 16) (len := 1) (j := 1) rfl hk rfl ?_
      obtain ⟨hi4, h⟩ := cd_n h
      refine py_ai (pc := 17) (len := 1) (cs := [76]) (t := 33) (n := 2) rfl rfl rfl hi4 List.mem_cons_self hS ?_
      obtain ⟨hi5, h⟩ := cd_n h
      have h := sb_e h
      refine py_si (pc := 18) (len := 1) (cs := [88]) (t := 45) (n := 2) rfl rfl rfl hi5 List.mem_cons_self hS ?_
      have hS7 : oS (uI hp 88 v1.toNatClampNeg (aI hp 76 v1.toNatClampNeg)) := oS_uI (cs := [88]) (t := 45) (n := 2) rfl List.mem_cons_self hS
      generalize (uI hp 88 v1.toNatClampNeg (aI hp 76 v1.toNatClampNeg)) = h6 at h hS7 ⊢
      refine py_aln (pc := 19) (len := 1) (j := 0) rfl hk rfl ?_
      refine py_g1 89 (pc := 20) (len := 3) (cs := [69]) rfl rfl rfl List.mem_cons_self hS7 ?_
      refine py_iln (pc := 23) (len := 1) (j := 1) rfl hk rfl ?_
      refine py_its (pc := 24) (pc1 := 25) (lv1 := lv) (st1 := [.int (Int32.ofInt 0), .int v1, .ref 89]) 1 (fun _ _ _ _ => rfl) ?_
      obtain ⟨hi8, h⟩ := cd_n h
      have h := sb_e h
      refine py_si (pc := 25) (len := 1) (cs := [89]) (t := 46) (n := 2) rfl rfl rfl hi8 List.mem_cons_self hS7 ?_
      have hS10 : oS (uI h6 89 v1.toNatClampNeg (Int32.ofInt 0)) := oS_uI (cs := [89]) (t := 46) (n := 2) rfl List.mem_cons_self hS7
      generalize (uI h6 89 v1.toNatClampNeg (Int32.ofInt 0)) = h9 at h hS10 ⊢
      refine py_inc (pc := 26) (len := 3) (j := 1) (n := 1) rfl rfl hk rfl (fun lv11 hk12 => ?_)
      have hk12 : lk lv11 [(1, .int (v1 + Int32.ofInt 1)), (0, .ref 69)] := hk12
      refine py_its (pc := 29) (pc1 := 2) (lv1 := lv11) (st1 := []) 1 (fun _ _ _ _ => rfl) ?_
      exact ih (v1 + Int32.ofInt 1) h9 lv11 _ hS10 ⟨lk_find hk12 rfl, lk_find hk12 rfl, trivial⟩ h
noncomputable def fn_M_isAsBefore  (hp : px_H) : Option (px_H) :=
  fn_M_isAsBefore_L2 fu (Int32.ofInt 0) hp
theorem fx_M_isAsBefore  {hp : px_H} {res : px_H} (hS : oS hp) (h : fn_M_isAsBefore hp = some res) : px_C nm_T nm_P mi_M_isAsBefore [.ref 69] hp none res ∧ oS res := by
  unfold fn_M_isAsBefore at h
  refine py_C (M := mm_M_isAsBefore) rfl (Nat.le_of_ble_eq_true rfl) ?_
  show px_Y mm_M_isAsBefore 0 [(0, .ref 69)] [] hp _ _
  refine py_its (pc := 0) (pc1 := 2) (lv1 := [(1, .int (Int32.ofInt 0)), (0, .ref 69)]) (st1 := []) 2 (fun _ _ _ _ => rfl) ?_
  exact fl_M_isAsBefore_L2 fu (Int32.ofInt 0) hp [(1, .int (Int32.ofInt 0)), (0, .ref 69)] _ hS ⟨rfl, rfl, trivial⟩ h
/-! M_begin -/
noncomputable def fn_M_begin  (hp : px_H) : Option (Int32 × px_H) :=
  sb (wF hp 69 0 (.int (Int32.ofInt 0))) fun h1 =>
  (fn_M_isAsBefore h1).bind fun q3 =>
  some ((gI h1 69 31), q3)
theorem fx_M_begin  {hp : px_H} {res : Int32 × px_H} (hS : oS hp) (h : fn_M_begin hp = some res) : px_C nm_T nm_P mi_M_begin [.ref 69] hp (some (.int res.1)) res.2 ∧ oS res.2 := by
  unfold fn_M_begin at h
  refine py_C (M := mm_M_begin) rfl (Nat.le_of_ble_eq_true rfl) ?_
  show px_Y mm_M_begin 0 [(0, .ref 69)] [] hp _ _
  refine py_its (pc := 0) (pc1 := 2) (lv1 := [(0, .ref 69)]) (st1 := [.int (Int32.ofInt 0), .ref 69]) 2 (fun _ _ _ _ => rfl) ?_
  have h := sb_e h
  refine py_pI (pc := 2) (len := 3) (cs := [69]) rfl rfl rfl List.mem_cons_self hS rfl rfl rfl rfl ?_
  have hS2 : oS (wF hp 69 0 (.int (Int32.ofInt 0))) := oS_wI (cs := [69]) (ci := 9) rfl List.mem_cons_self hS
  generalize (wF hp 69 0 (.int (Int32.ofInt 0))) = h1 at h hS2 ⊢
  refine py_its (pc := 5) (pc1 := 6) (lv1 := [(0, .ref 69)]) (st1 := [.ref 69]) 1 (fun _ _ _ _ => rfl) ?_
  refine py_gI (pc := 6) (len := 3) (cs := [69]) rfl rfl rfl List.mem_cons_self hS2 ?_
  refine py_its (pc := 9) (pc1 := 11) (lv1 := [(1, .int (gI h1 69 31)), (0, .ref 69)]) (st1 := [.ref 69]) 2 (fun _ _ _ _ => rfl) ?_
  obtain ⟨q3, hq4, h⟩ := bd_e h
  obtain ⟨hC5, hS6⟩ := fx_M_isAsBefore hS2 hq4
  refine py_vi (pc := 11) (mi := mi_M_isAsBefore) (cs := [69]) (N := mm_M_isAsBefore) rfl rfl rfl rfl List.mem_cons_self hS2 rfl (Nat.le_of_ble_eq_true rfl) (Nat.le_of_ble_eq_true rfl) rfl rfl hC5 ?_
  show px_Y mm_M_begin 14 [(1, .int (gI h1 69 31)), (0, .ref 69)] [] q3 _ _
  refine py_its (pc := 14) (pc1 := 15) (lv1 := [(1, .int (gI h1 69 31)), (0, .ref 69)]) (st1 := [.int (gI h1 69 31)]) 1 (fun _ _ _ _ => rfl) ?_
  have h := Option.some.inj h
  subst h
  exact py_ir (pc := 15) (len := 1) (ty := .int) rfl rfl rfl hS6
/-! M_bag -/
noncomputable def fn_M_bag (a1 : Int32) (a2 : Int32) (hp : px_H) : Option (Int32 × px_H) :=
  sb (wF hp 69 0 (.int (Int32.ofInt 0))) fun h1 =>
  (fn_M_isBag a1 h1).bind fun q3 =>
  bif px_cmp .eq q3 0 then
    some ((Int32.ofInt (-1)), h1)
  else
    bif px_cmp .eq (sx_in a2.toInt64 (Int64.ofNat 0) (Int64.ofNat 1)) 0 then
      some ((Int32.ofInt (-1)), h1)
    else
      bif px_cmp .ne a2 0 then
        bif px_inR a1 2 then
        some ((aI h1 89 a1.toNatClampNeg), h1)
        else none
      else
        bif px_inR a1 2 then
        some ((aI h1 88 a1.toNatClampNeg), h1)
        else none
theorem fx_M_bag {a1 : Int32} {a2 : Int32} {hp : px_H} {res : Int32 × px_H} (hS : oS hp) (h : fn_M_bag a1 a2 hp = some res) : px_C nm_T nm_P mi_M_bag [.ref 69, .int a1, .int a2] hp (some (.int res.1)) res.2 ∧ oS res.2 := by
  unfold fn_M_bag at h
  refine py_C (M := mm_M_bag) rfl (Nat.le_of_ble_eq_true rfl) ?_
  show px_Y mm_M_bag 0 [(0, .ref 69), (1, .int a1), (2, .int a2)] [] hp _ _
  refine py_its (pc := 0) (pc1 := 2) (lv1 := [(0, .ref 69), (1, .int a1), (2, .int a2)]) (st1 := [.int (Int32.ofInt 0), .ref 69]) 2 (fun _ _ _ _ => rfl) ?_
  have h := sb_e h
  refine py_pI (pc := 2) (len := 3) (cs := [69]) rfl rfl rfl List.mem_cons_self hS rfl rfl rfl rfl ?_
  have hS2 : oS (wF hp 69 0 (.int (Int32.ofInt 0))) := oS_wI (cs := [69]) (ci := 9) rfl List.mem_cons_self hS
  generalize (wF hp 69 0 (.int (Int32.ofInt 0))) = h1 at h hS2 ⊢
  refine py_its (pc := 5) (pc1 := 6) (lv1 := [(0, .ref 69), (1, .int a1), (2, .int a2)]) (st1 := [.int a1]) 1 (fun _ _ _ _ => rfl) ?_
  obtain ⟨q3, hq4, h⟩ := bd_e h
  have hC5 := (fx_M_isBag hS2 hq4).1
  refine py_st (pc := 6) (mi := mi_M_isBag) (N := mm_M_isBag) rfl rfl rfl (Nat.le_of_ble_eq_true rfl) (Nat.le_of_ble_eq_true rfl) rfl rfl hC5 ?_
  show px_Y mm_M_bag 9 [(0, .ref 69), (1, .int a1), (2, .int a2)] [.int q3] h1 _ _
  cases hb6 : px_cmp .eq q3 0 with
  | true =>
    have h := cd_t hb6 h
    refine py_if (pc := 9) (len := 3) true rfl hb6 ?_
    refine py_its (pc := 44) (pc1 := 45) (lv1 := [(0, .ref 69), (1, .int a1), (2, .int a2)]) (st1 := [.int (Int32.ofInt (-1))]) 1 (fun _ _ _ _ => rfl) ?_
    have h := Option.some.inj h
    subst h
    exact py_ir (pc := 45) (len := 1) (ty := .int) rfl rfl rfl hS2
  | false =>
    have h := cd_f hb6 h
    refine py_if (pc := 9) (len := 3) false rfl hb6 ?_
    refine py_its (pc := 12) (pc1 := 16) (lv1 := [(0, .ref 69), (1, .int a1), (2, .int a2)]) (st1 := [.long (Int64.ofNat 1), .long (Int64.ofNat 0), .long a2.toInt64]) 4 (fun _ _ _ _ => rfl) ?_
    refine py_st (pc := 16) (mi := mi_M_in) (N := mm_M_in) rfl rfl rfl (Nat.le_of_ble_eq_true rfl) (Nat.le_of_ble_eq_true rfl) rfl rfl (sx_in_C a2.toInt64 (Int64.ofNat 0) (Int64.ofNat 1) h1) ?_
    show px_Y mm_M_bag 19 [(0, .ref 69), (1, .int a1), (2, .int a2)] [.int (sx_in a2.toInt64 (Int64.ofNat 0) (Int64.ofNat 1))] h1 _ _
    cases hb7 : px_cmp .eq (sx_in a2.toInt64 (Int64.ofNat 0) (Int64.ofNat 1)) 0 with
    | true =>
      have h := cd_t hb7 h
      refine py_if (pc := 19) (len := 3) true rfl hb7 ?_
      refine py_its (pc := 44) (pc1 := 45) (lv1 := [(0, .ref 69), (1, .int a1), (2, .int a2)]) (st1 := [.int (Int32.ofInt (-1))]) 1 (fun _ _ _ _ => rfl) ?_
      have h := Option.some.inj h
      subst h
      exact py_ir (pc := 45) (len := 1) (ty := .int) rfl rfl rfl hS2
    | false =>
      have h := cd_f hb7 h
      refine py_if (pc := 19) (len := 3) false rfl hb7 ?_
      refine py_its (pc := 22) (pc1 := 23) (lv1 := [(0, .ref 69), (1, .int a1), (2, .int a2)]) (st1 := [.int a2]) 1 (fun _ _ _ _ => rfl) ?_
      cases hb8 : px_cmp .ne a2 0 with
      | true =>
        have h := cd_t hb8 h
        refine py_if (pc := 23) (len := 3) true rfl hb8 ?_
        refine py_its (pc := 35) (pc1 := 36) (lv1 := [(0, .ref 69), (1, .int a1), (2, .int a2)]) (st1 := [.ref 69]) 1 (fun _ _ _ _ => rfl) ?_
        refine py_g1 89 (pc := 36) (len := 3) (cs := [69]) rfl rfl rfl List.mem_cons_self hS2 ?_
        refine py_its (pc := 39) (pc1 := 40) (lv1 := [(0, .ref 69), (1, .int a1), (2, .int a2)]) (st1 := [.int a1, .ref 89]) 1 (fun _ _ _ _ => rfl) ?_
        obtain ⟨hi9, h⟩ := cd_n h
        refine py_ai (pc := 40) (len := 1) (cs := [89]) (t := 46) (n := 2) rfl rfl rfl hi9 List.mem_cons_self hS2 ?_
        refine py_its (pc := 41) (pc1 := 45) (lv1 := [(0, .ref 69), (1, .int a1), (2, .int a2)]) (st1 := [.int (aI h1 89 a1.toNatClampNeg)]) 1 (fun _ _ _ _ => rfl) ?_
        have h := Option.some.inj h
        subst h
        exact py_ir (pc := 45) (len := 1) (ty := .int) rfl rfl rfl hS2
      | false =>
        have h := cd_f hb8 h
        refine py_if (pc := 23) (len := 3) false rfl hb8 ?_
        refine py_its (pc := 26) (pc1 := 27) (lv1 := [(0, .ref 69), (1, .int a1), (2, .int a2)]) (st1 := [.ref 69]) 1 (fun _ _ _ _ => rfl) ?_
        refine py_g1 88 (pc := 27) (len := 3) (cs := [69]) rfl rfl rfl List.mem_cons_self hS2 ?_
        refine py_its (pc := 30) (pc1 := 31) (lv1 := [(0, .ref 69), (1, .int a1), (2, .int a2)]) (st1 := [.int a1, .ref 88]) 1 (fun _ _ _ _ => rfl) ?_
        obtain ⟨hi10, h⟩ := cd_n h
        refine py_ai (pc := 31) (len := 1) (cs := [88]) (t := 45) (n := 2) rfl rfl rfl hi10 List.mem_cons_self hS2 ?_
        refine py_its (pc := 32) (pc1 := 45) (lv1 := [(0, .ref 69), (1, .int a1), (2, .int a2)]) (st1 := [.int (aI h1 88 a1.toNatClampNeg)]) 1 (fun _ _ _ _ => rfl) ?_
        have h := Option.some.inj h
        subst h
        exact py_ir (pc := 45) (len := 1) (ty := .int) rfl rfl rfl hS2
/-! M_sat -/
noncomputable def fn_M_sat (a1 : Int32) (hp : px_H) : Option (Int32 × px_H) :=
  sb (wF hp 69 0 (.int (Int32.ofInt 0))) fun h1 =>
  (fn_M_isPerson a1 h1).bind fun q3 =>
  bif px_cmp .ne q3 0 then
    bif px_inR a1 10 then
    bif px_cmp .ne (aI h1 90 a1.toNatClampNeg) 0 then
      bif px_inR a1 10 then
      some (((aI h1 90 a1.toNatClampNeg) - (Int32.ofInt 1)), h1)
      else none
    else
      some ((Int8.ofInt (-2)).toInt32, h1)
    else none
  else
    some ((Int32.ofInt (-1)), h1)
theorem fx_M_sat {a1 : Int32} {hp : px_H} {res : Int32 × px_H} (hS : oS hp) (h : fn_M_sat a1 hp = some res) : px_C nm_T nm_P mi_M_sat [.ref 69, .int a1] hp (some (.int res.1)) res.2 ∧ oS res.2 := by
  unfold fn_M_sat at h
  refine py_C (M := mm_M_sat) rfl (Nat.le_of_ble_eq_true rfl) ?_
  show px_Y mm_M_sat 0 [(0, .ref 69), (1, .int a1)] [] hp _ _
  refine py_its (pc := 0) (pc1 := 2) (lv1 := [(0, .ref 69), (1, .int a1)]) (st1 := [.int (Int32.ofInt 0), .ref 69]) 2 (fun _ _ _ _ => rfl) ?_
  have h := sb_e h
  refine py_pI (pc := 2) (len := 3) (cs := [69]) rfl rfl rfl List.mem_cons_self hS rfl rfl rfl rfl ?_
  have hS2 : oS (wF hp 69 0 (.int (Int32.ofInt 0))) := oS_wI (cs := [69]) (ci := 9) rfl List.mem_cons_self hS
  generalize (wF hp 69 0 (.int (Int32.ofInt 0))) = h1 at h hS2 ⊢
  refine py_its (pc := 5) (pc1 := 7) (lv1 := [(0, .ref 69), (1, .int a1)]) (st1 := [.int a1, .ref 69]) 2 (fun _ _ _ _ => rfl) ?_
  obtain ⟨q3, hq4, h⟩ := bd_e h
  have hC5 := (fx_M_isPerson hS2 hq4).1
  refine py_vi (pc := 7) (mi := mi_M_isPerson) (cs := [69]) (N := mm_M_isPerson) rfl rfl rfl rfl List.mem_cons_self hS2 rfl (Nat.le_of_ble_eq_true rfl) (Nat.le_of_ble_eq_true rfl) rfl rfl hC5 ?_
  show px_Y mm_M_sat 10 [(0, .ref 69), (1, .int a1)] [.int q3] h1 _ _
  cases hb6 : px_cmp .ne q3 0 with
  | true =>
    have h := cd_t hb6 h
    refine py_if (pc := 10) (len := 3) true rfl hb6 ?_
    refine py_its (pc := 17) (pc1 := 18) (lv1 := [(0, .ref 69), (1, .int a1)]) (st1 := [.ref 69]) 1 (fun _ _ _ _ => rfl) ?_
    refine py_g1 90 (pc := 18) (len := 3) (cs := [69]) rfl rfl rfl List.mem_cons_self hS2 ?_
    refine py_its (pc := 21) (pc1 := 22) (lv1 := [(0, .ref 69), (1, .int a1)]) (st1 := [.int a1, .ref 90]) 1 (fun _ _ _ _ => rfl) ?_
    obtain ⟨hi7, h⟩ := cd_n h
    refine py_ai (pc := 22) (len := 1) (cs := [90]) (t := 47) (n := 10) rfl rfl rfl hi7 List.mem_cons_self hS2 ?_
    cases hb8 : px_cmp .ne (aI h1 90 a1.toNatClampNeg) 0 with
    | true =>
      have h := cd_t hb8 h
      refine py_if (pc := 23) (len := 3) true rfl hb8 ?_
      refine py_its (pc := 31) (pc1 := 32) (lv1 := [(0, .ref 69), (1, .int a1)]) (st1 := [.ref 69]) 1 (fun _ _ _ _ => rfl) ?_
      refine py_g1 90 (pc := 32) (len := 3) (cs := [69]) rfl rfl rfl List.mem_cons_self hS2 ?_
      refine py_its (pc := 35) (pc1 := 36) (lv1 := [(0, .ref 69), (1, .int a1)]) (st1 := [.int a1, .ref 90]) 1 (fun _ _ _ _ => rfl) ?_
      obtain ⟨hi9, h⟩ := cd_n h
      refine py_ai (pc := 36) (len := 1) (cs := [90]) (t := 47) (n := 10) rfl rfl rfl hi9 List.mem_cons_self hS2 ?_
      refine py_its (pc := 37) (pc1 := 39) (lv1 := [(0, .ref 69), (1, .int a1)]) (st1 := [.int ((aI h1 90 a1.toNatClampNeg) - (Int32.ofInt 1))]) 2 (fun _ _ _ _ => rfl) ?_
      have h := Option.some.inj h
      subst h
      exact py_ir (pc := 39) (len := 1) (ty := .int) rfl rfl rfl hS2
    | false =>
      have h := cd_f hb8 h
      refine py_if (pc := 23) (len := 3) false rfl hb8 ?_
      refine py_its (pc := 26) (pc1 := 39) (lv1 := [(0, .ref 69), (1, .int a1)]) (st1 := [.int (Int8.ofInt (-2)).toInt32]) 2 (fun _ _ _ _ => rfl) ?_
      have h := Option.some.inj h
      subst h
      exact py_ir (pc := 39) (len := 1) (ty := .int) rfl rfl rfl hS2
  | false =>
    have h := cd_f hb6 h
    refine py_if (pc := 10) (len := 3) false rfl hb6 ?_
    refine py_its (pc := 13) (pc1 := 39) (lv1 := [(0, .ref 69), (1, .int a1)]) (st1 := [.int (Int32.ofInt (-1))]) 2 (fun _ _ _ _ => rfl) ?_
    have h := Option.some.inj h
    subst h
    exact py_ir (pc := 39) (len := 1) (ty := .int) rfl rfl rfl hS2
/-! M_seed -/
noncomputable def fn_M_seed (a1 : Int32) (hp : px_H) : Option (Int32 × px_H) :=
  sb (wF hp 69 0 (.int (Int32.ofInt 0))) fun h1 =>
  sb (wF h1 69 37 (.int a1)) fun h3 =>
  some ((gI h1 69 37), h3)
theorem fx_M_seed {a1 : Int32} {hp : px_H} {res : Int32 × px_H} (hS : oS hp) (h : fn_M_seed a1 hp = some res) : px_C nm_T nm_P mi_M_seed [.ref 69, .int a1] hp (some (.int res.1)) res.2 ∧ oS res.2 := by
  unfold fn_M_seed at h
  refine py_C (M := mm_M_seed) rfl (Nat.le_of_ble_eq_true rfl) ?_
  show px_Y mm_M_seed 0 [(0, .ref 69), (1, .int a1)] [] hp _ _
  refine py_its (pc := 0) (pc1 := 2) (lv1 := [(0, .ref 69), (1, .int a1)]) (st1 := [.int (Int32.ofInt 0), .ref 69]) 2 (fun _ _ _ _ => rfl) ?_
  have h := sb_e h
  refine py_pI (pc := 2) (len := 3) (cs := [69]) rfl rfl rfl List.mem_cons_self hS rfl rfl rfl rfl ?_
  have hS2 : oS (wF hp 69 0 (.int (Int32.ofInt 0))) := oS_wI (cs := [69]) (ci := 9) rfl List.mem_cons_self hS
  generalize (wF hp 69 0 (.int (Int32.ofInt 0))) = h1 at h hS2 ⊢
  refine py_its (pc := 5) (pc1 := 6) (lv1 := [(0, .ref 69), (1, .int a1)]) (st1 := [.ref 69]) 1 (fun _ _ _ _ => rfl) ?_
  refine py_gI (pc := 6) (len := 3) (cs := [69]) rfl rfl rfl List.mem_cons_self hS2 ?_
  refine py_its (pc := 9) (pc1 := 12) (lv1 := [(2, .int (gI h1 69 37)), (0, .ref 69), (1, .int a1)]) (st1 := [.int a1, .ref 69]) 3 (fun _ _ _ _ => rfl) ?_
  have h := sb_e h
  refine py_pI (pc := 12) (len := 3) (cs := [69]) rfl rfl rfl List.mem_cons_self hS2 rfl rfl rfl rfl ?_
  have hS4 : oS (wF h1 69 37 (.int a1)) := oS_wI (cs := [69]) (ci := 9) rfl List.mem_cons_self hS2
  generalize (wF h1 69 37 (.int a1)) = h3 at h hS4 ⊢
  refine py_its (pc := 15) (pc1 := 16) (lv1 := [(2, .int (gI h1 69 37)), (0, .ref 69), (1, .int a1)]) (st1 := [.int (gI h1 69 37)]) 1 (fun _ _ _ _ => rfl) ?_
  have h := Option.some.inj h
  subst h
  exact py_ir (pc := 16) (len := 1) (ty := .int) rfl rfl rfl hS4
/-! M_keep -/
noncomputable def fn_M_keep (a1 : Int32) (hp : px_H) : Option (Int32 × px_H) :=
  sb (wF hp 69 0 (.int (Int32.ofInt 0))) fun h1 =>
  bif px_cmp .ne (sx_in a1.toInt64 (Int64.ofNat 0) (Int64.ofInt 2)) 0 then
    bif px_inR a1 3 then
    sb (uI h1 100 a1.toNatClampNeg (Int32.ofInt 1)) fun h5 =>
    (fn_M_first h5).bind fun q7 =>
    bif px_inR a1 3 then
    sb (uL h5 101 a1.toNatClampNeg q7) fun h11 =>
    (fn_M_second h11).bind fun q13 =>
    bif px_inR a1 3 then
    sb (uL h11 102 a1.toNatClampNeg q13) fun h17 =>
    bif px_inR a1 3 then
    sb (uI h17 103 a1.toNatClampNeg (gI h17 69 31)) fun h20 =>
    bif px_inR a1 3 then
    sb (uI h20 104 a1.toNatClampNeg (gI h20 69 37)) fun h23 =>
    some ((Int32.ofInt 1), h23)
    else none
    else none
    else none
    else none
    else none
  else
    some ((Int32.ofInt 0), h1)
theorem fx_M_keep {a1 : Int32} {hp : px_H} {res : Int32 × px_H} (hS : oS hp) (h : fn_M_keep a1 hp = some res) : px_C nm_T nm_P mi_M_keep [.ref 69, .int a1] hp (some (.int res.1)) res.2 ∧ oS res.2 := by
  unfold fn_M_keep at h
  refine py_C (M := mm_M_keep) rfl (Nat.le_of_ble_eq_true rfl) ?_
  show px_Y mm_M_keep 0 [(0, .ref 69), (1, .int a1)] [] hp _ _
  refine py_its (pc := 0) (pc1 := 2) (lv1 := [(0, .ref 69), (1, .int a1)]) (st1 := [.int (Int32.ofInt 0), .ref 69]) 2 (fun _ _ _ _ => rfl) ?_
  have h := sb_e h
  refine py_pI (pc := 2) (len := 3) (cs := [69]) rfl rfl rfl List.mem_cons_self hS rfl rfl rfl rfl ?_
  have hS2 : oS (wF hp 69 0 (.int (Int32.ofInt 0))) := oS_wI (cs := [69]) (ci := 9) rfl List.mem_cons_self hS
  generalize (wF hp 69 0 (.int (Int32.ofInt 0))) = h1 at h hS2 ⊢
  refine py_its (pc := 5) (pc1 := 11) (lv1 := [(0, .ref 69), (1, .int a1)]) (st1 := [.long (Int64.ofInt 2), .long (Int64.ofNat 0), .long a1.toInt64]) 4 (fun _ _ _ _ => rfl) ?_
  refine py_st (pc := 11) (mi := mi_M_in) (N := mm_M_in) rfl rfl rfl (Nat.le_of_ble_eq_true rfl) (Nat.le_of_ble_eq_true rfl) rfl rfl (sx_in_C a1.toInt64 (Int64.ofNat 0) (Int64.ofInt 2) h1) ?_
  show px_Y mm_M_keep 14 [(0, .ref 69), (1, .int a1)] [.int (sx_in a1.toInt64 (Int64.ofNat 0) (Int64.ofInt 2))] h1 _ _
  cases hb3 : px_cmp .ne (sx_in a1.toInt64 (Int64.ofNat 0) (Int64.ofInt 2)) 0 with
  | true =>
    have h := cd_t hb3 h
    refine py_if (pc := 14) (len := 3) true rfl hb3 ?_
    refine py_its (pc := 19) (pc1 := 20) (lv1 := [(0, .ref 69), (1, .int a1)]) (st1 := [.ref 69]) 1 (fun _ _ _ _ => rfl) ?_
    refine py_g1 100 (pc := 20) (len := 3) (cs := [69]) rfl rfl rfl List.mem_cons_self hS2 ?_
    refine py_its (pc := 23) (pc1 := 25) (lv1 := [(0, .ref 69), (1, .int a1)]) (st1 := [.int (Int32.ofInt 1), .int a1, .ref 100]) 2 (fun _ _ _ _ => rfl) ?_
    obtain ⟨hi4, h⟩ := cd_n h
    have h := sb_e h
    refine py_sb (pc := 25) (len := 1) (cs := [100]) (t := 57) (n := 3) rfl rfl rfl hi4 (by decide) List.mem_cons_self hS2 ?_
    have hS6 : oS (uI h1 100 a1.toNatClampNeg (Int32.ofInt 1)) := oS_uI (cs := [100]) (t := 57) (n := 3) rfl List.mem_cons_self hS2
    generalize (uI h1 100 a1.toNatClampNeg (Int32.ofInt 1)) = h5 at h hS6 ⊢
    refine py_its (pc := 26) (pc1 := 27) (lv1 := [(0, .ref 69), (1, .int a1)]) (st1 := [.ref 69]) 1 (fun _ _ _ _ => rfl) ?_
    refine py_g1 101 (pc := 27) (len := 3) (cs := [69]) rfl rfl rfl List.mem_cons_self hS6 ?_
    refine py_its (pc := 30) (pc1 := 32) (lv1 := [(0, .ref 69), (1, .int a1)]) (st1 := [.ref 69, .int a1, .ref 101]) 2 (fun _ _ _ _ => rfl) ?_
    obtain ⟨q7, hq8, h⟩ := bd_e h
    have hC9 := (fx_M_first hS6 hq8).1
    refine py_vi (pc := 32) (mi := mi_M_first) (cs := [69]) (N := mm_M_first) rfl rfl rfl rfl List.mem_cons_self hS6 rfl (Nat.le_of_ble_eq_true rfl) (Nat.le_of_ble_eq_true rfl) rfl rfl hC9 ?_
    show px_Y mm_M_keep 35 [(0, .ref 69), (1, .int a1)] [.long q7, .int a1, .ref 101] h5 _ _
    obtain ⟨hi10, h⟩ := cd_n h
    have h := sb_e h
    refine py_sl (pc := 35) (len := 1) (cs := [101]) (t := 58) (n := 3) rfl rfl rfl hi10 List.mem_cons_self hS6 ?_
    have hS12 : oS (uL h5 101 a1.toNatClampNeg q7) := oS_uL (cs := [101]) (t := 58) (n := 3) rfl List.mem_cons_self hS6
    generalize (uL h5 101 a1.toNatClampNeg q7) = h11 at h hS12 ⊢
    refine py_its (pc := 36) (pc1 := 37) (lv1 := [(0, .ref 69), (1, .int a1)]) (st1 := [.ref 69]) 1 (fun _ _ _ _ => rfl) ?_
    refine py_g1 102 (pc := 37) (len := 3) (cs := [69]) rfl rfl rfl List.mem_cons_self hS12 ?_
    refine py_its (pc := 40) (pc1 := 42) (lv1 := [(0, .ref 69), (1, .int a1)]) (st1 := [.ref 69, .int a1, .ref 102]) 2 (fun _ _ _ _ => rfl) ?_
    obtain ⟨q13, hq14, h⟩ := bd_e h
    have hC15 := (fx_M_second hS12 hq14).1
    refine py_vi (pc := 42) (mi := mi_M_second) (cs := [69]) (N := mm_M_second) rfl rfl rfl rfl List.mem_cons_self hS12 rfl (Nat.le_of_ble_eq_true rfl) (Nat.le_of_ble_eq_true rfl) rfl rfl hC15 ?_
    show px_Y mm_M_keep 45 [(0, .ref 69), (1, .int a1)] [.long q13, .int a1, .ref 102] h11 _ _
    obtain ⟨hi16, h⟩ := cd_n h
    have h := sb_e h
    refine py_sl (pc := 45) (len := 1) (cs := [102]) (t := 59) (n := 3) rfl rfl rfl hi16 List.mem_cons_self hS12 ?_
    have hS18 : oS (uL h11 102 a1.toNatClampNeg q13) := oS_uL (cs := [102]) (t := 59) (n := 3) rfl List.mem_cons_self hS12
    generalize (uL h11 102 a1.toNatClampNeg q13) = h17 at h hS18 ⊢
    refine py_its (pc := 46) (pc1 := 47) (lv1 := [(0, .ref 69), (1, .int a1)]) (st1 := [.ref 69]) 1 (fun _ _ _ _ => rfl) ?_
    refine py_g1 103 (pc := 47) (len := 3) (cs := [69]) rfl rfl rfl List.mem_cons_self hS18 ?_
    refine py_its (pc := 50) (pc1 := 52) (lv1 := [(0, .ref 69), (1, .int a1)]) (st1 := [.ref 69, .int a1, .ref 103]) 2 (fun _ _ _ _ => rfl) ?_
    refine py_gI (pc := 52) (len := 3) (cs := [69]) rfl rfl rfl List.mem_cons_self hS18 ?_
    obtain ⟨hi19, h⟩ := cd_n h
    have h := sb_e h
    refine py_si (pc := 55) (len := 1) (cs := [103]) (t := 60) (n := 3) rfl rfl rfl hi19 List.mem_cons_self hS18 ?_
    have hS21 : oS (uI h17 103 a1.toNatClampNeg (gI h17 69 31)) := oS_uI (cs := [103]) (t := 60) (n := 3) rfl List.mem_cons_self hS18
    generalize (uI h17 103 a1.toNatClampNeg (gI h17 69 31)) = h20 at h hS21 ⊢
    refine py_its (pc := 56) (pc1 := 57) (lv1 := [(0, .ref 69), (1, .int a1)]) (st1 := [.ref 69]) 1 (fun _ _ _ _ => rfl) ?_
    refine py_g1 104 (pc := 57) (len := 3) (cs := [69]) rfl rfl rfl List.mem_cons_self hS21 ?_
    refine py_its (pc := 60) (pc1 := 62) (lv1 := [(0, .ref 69), (1, .int a1)]) (st1 := [.ref 69, .int a1, .ref 104]) 2 (fun _ _ _ _ => rfl) ?_
    refine py_gI (pc := 62) (len := 3) (cs := [69]) rfl rfl rfl List.mem_cons_self hS21 ?_
    obtain ⟨hi22, h⟩ := cd_n h
    have h := sb_e h
    refine py_si (pc := 65) (len := 1) (cs := [104]) (t := 61) (n := 3) rfl rfl rfl hi22 List.mem_cons_self hS21 ?_
    have hS24 : oS (uI h20 104 a1.toNatClampNeg (gI h20 69 37)) := oS_uI (cs := [104]) (t := 61) (n := 3) rfl List.mem_cons_self hS21
    generalize (uI h20 104 a1.toNatClampNeg (gI h20 69 37)) = h23 at h hS24 ⊢
    refine py_its (pc := 66) (pc1 := 67) (lv1 := [(0, .ref 69), (1, .int a1)]) (st1 := [.int (Int32.ofInt 1)]) 1 (fun _ _ _ _ => rfl) ?_
    have h := Option.some.inj h
    subst h
    exact py_ir (pc := 67) (len := 1) (ty := .boolean) rfl rfl (by decide) hS24
  | false =>
    have h := cd_f hb3 h
    refine py_if (pc := 14) (len := 3) false rfl hb3 ?_
    refine py_its (pc := 17) (pc1 := 18) (lv1 := [(0, .ref 69), (1, .int a1)]) (st1 := [.int (Int32.ofInt 0)]) 1 (fun _ _ _ _ => rfl) ?_
    have h := Option.some.inj h
    subst h
    exact py_ir (pc := 18) (len := 1) (ty := .boolean) rfl rfl (by decide) hS2
/-! M_again -/
noncomputable def fn_M_again (a1 : Int32) (hp : px_H) : Option (Int32 × px_H) :=
  sb (wF hp 69 0 (.int (Int32.ofInt 0))) fun h1 =>
  bif px_cmp .eq (sx_in a1.toInt64 (Int64.ofNat 0) (Int64.ofInt 2)) 0 then
    some ((Int32.ofInt 0), h1)
  else
    bif px_inR a1 3 then
    bif px_cmp .ne (aI h1 100 a1.toNatClampNeg) 0 then
      bif px_inR a1 3 then
      bif px_inR a1 3 then
      (fn_M_unpacks (aL h1 101 a1.toNatClampNeg) (aL h1 102 a1.toNatClampNeg) h1).bind fun q8 =>
      bif px_inR a1 3 then
      sb (wF q8 69 31 (.int (aI q8 103 a1.toNatClampNeg))) fun h13 =>
      bif px_inR a1 3 then
      sb (wF h13 69 37 (.int (aI h13 104 a1.toNatClampNeg))) fun h16 =>
      some ((Int32.ofInt 1), h16)
      else none
      else none
      else none
      else none
    else
      some ((Int32.ofInt 0), h1)
    else none
theorem fx_M_again {a1 : Int32} {hp : px_H} {res : Int32 × px_H} (hS : oS hp) (h : fn_M_again a1 hp = some res) : px_C nm_T nm_P mi_M_again [.ref 69, .int a1] hp (some (.int res.1)) res.2 ∧ oS res.2 := by
  unfold fn_M_again at h
  refine py_C (M := mm_M_again) rfl (Nat.le_of_ble_eq_true rfl) ?_
  show px_Y mm_M_again 0 [(0, .ref 69), (1, .int a1)] [] hp _ _
  refine py_its (pc := 0) (pc1 := 2) (lv1 := [(0, .ref 69), (1, .int a1)]) (st1 := [.int (Int32.ofInt 0), .ref 69]) 2 (fun _ _ _ _ => rfl) ?_
  have h := sb_e h
  refine py_pI (pc := 2) (len := 3) (cs := [69]) rfl rfl rfl List.mem_cons_self hS rfl rfl rfl rfl ?_
  have hS2 : oS (wF hp 69 0 (.int (Int32.ofInt 0))) := oS_wI (cs := [69]) (ci := 9) rfl List.mem_cons_self hS
  generalize (wF hp 69 0 (.int (Int32.ofInt 0))) = h1 at h hS2 ⊢
  refine py_its (pc := 5) (pc1 := 11) (lv1 := [(0, .ref 69), (1, .int a1)]) (st1 := [.long (Int64.ofInt 2), .long (Int64.ofNat 0), .long a1.toInt64]) 4 (fun _ _ _ _ => rfl) ?_
  refine py_st (pc := 11) (mi := mi_M_in) (N := mm_M_in) rfl rfl rfl (Nat.le_of_ble_eq_true rfl) (Nat.le_of_ble_eq_true rfl) rfl rfl (sx_in_C a1.toInt64 (Int64.ofNat 0) (Int64.ofInt 2) h1) ?_
  show px_Y mm_M_again 14 [(0, .ref 69), (1, .int a1)] [.int (sx_in a1.toInt64 (Int64.ofNat 0) (Int64.ofInt 2))] h1 _ _
  cases hb3 : px_cmp .eq (sx_in a1.toInt64 (Int64.ofNat 0) (Int64.ofInt 2)) 0 with
  | true =>
    have h := cd_t hb3 h
    refine py_if (pc := 14) (len := 3) true rfl hb3 ?_
    refine py_its (pc := 26) (pc1 := 27) (lv1 := [(0, .ref 69), (1, .int a1)]) (st1 := [.int (Int32.ofInt 0)]) 1 (fun _ _ _ _ => rfl) ?_
    have h := Option.some.inj h
    subst h
    exact py_ir (pc := 27) (len := 1) (ty := .boolean) rfl rfl (by decide) hS2
  | false =>
    have h := cd_f hb3 h
    refine py_if (pc := 14) (len := 3) false rfl hb3 ?_
    refine py_its (pc := 17) (pc1 := 18) (lv1 := [(0, .ref 69), (1, .int a1)]) (st1 := [.ref 69]) 1 (fun _ _ _ _ => rfl) ?_
    refine py_g1 100 (pc := 18) (len := 3) (cs := [69]) rfl rfl rfl List.mem_cons_self hS2 ?_
    refine py_its (pc := 21) (pc1 := 22) (lv1 := [(0, .ref 69), (1, .int a1)]) (st1 := [.int a1, .ref 100]) 1 (fun _ _ _ _ => rfl) ?_
    obtain ⟨hi4, h⟩ := cd_n h
    refine py_ab (pc := 22) (len := 1) (cs := [100]) (t := 57) (n := 3) rfl rfl rfl hi4 List.mem_cons_self hS2 ?_
    cases hb5 : px_cmp .ne (aI h1 100 a1.toNatClampNeg) 0 with
    | true =>
      have h := cd_t hb5 h
      refine py_if (pc := 23) (len := 3) true rfl hb5 ?_
      refine py_its (pc := 28) (pc1 := 30) (lv1 := [(0, .ref 69), (1, .int a1)]) (st1 := [.ref 69, .ref 69]) 2 (fun _ _ _ _ => rfl) ?_
      refine py_g1 101 (pc := 30) (len := 3) (cs := [69]) rfl rfl rfl List.mem_cons_self hS2 ?_
      refine py_its (pc := 33) (pc1 := 34) (lv1 := [(0, .ref 69), (1, .int a1)]) (st1 := [.int a1, .ref 101, .ref 69]) 1 (fun _ _ _ _ => rfl) ?_
      obtain ⟨hi6, h⟩ := cd_n h
      refine py_al (pc := 34) (len := 1) (cs := [101]) (t := 58) (n := 3) rfl rfl rfl hi6 List.mem_cons_self hS2 ?_
      refine py_its (pc := 35) (pc1 := 36) (lv1 := [(0, .ref 69), (1, .int a1)]) (st1 := [.ref 69, .long (aL h1 101 a1.toNatClampNeg), .ref 69]) 1 (fun _ _ _ _ => rfl) ?_
      refine py_g1 102 (pc := 36) (len := 3) (cs := [69]) rfl rfl rfl List.mem_cons_self hS2 ?_
      refine py_its (pc := 39) (pc1 := 40) (lv1 := [(0, .ref 69), (1, .int a1)]) (st1 := [.int a1, .ref 102, .long (aL h1 101 a1.toNatClampNeg), .ref 69]) 1 (fun _ _ _ _ => rfl) ?_
      obtain ⟨hi7, h⟩ := cd_n h
      refine py_al (pc := 40) (len := 1) (cs := [102]) (t := 59) (n := 3) rfl rfl rfl hi7 List.mem_cons_self hS2 ?_
      obtain ⟨q8, hq9, h⟩ := bd_e h
      obtain ⟨hC10, hS11⟩ := fx_M_unpacks hS2 hq9
      refine py_vi (pc := 41) (mi := mi_M_unpacks) (cs := [69]) (N := mm_M_unpacks) rfl rfl rfl rfl List.mem_cons_self hS2 rfl (Nat.le_of_ble_eq_true rfl) (Nat.le_of_ble_eq_true rfl) rfl rfl hC10 ?_
      show px_Y mm_M_again 44 [(0, .ref 69), (1, .int a1)] [] q8 _ _
      refine py_its (pc := 44) (pc1 := 46) (lv1 := [(0, .ref 69), (1, .int a1)]) (st1 := [.ref 69, .ref 69]) 2 (fun _ _ _ _ => rfl) ?_
      refine py_g1 103 (pc := 46) (len := 3) (cs := [69]) rfl rfl rfl List.mem_cons_self hS11 ?_
      refine py_its (pc := 49) (pc1 := 50) (lv1 := [(0, .ref 69), (1, .int a1)]) (st1 := [.int a1, .ref 103, .ref 69]) 1 (fun _ _ _ _ => rfl) ?_
      obtain ⟨hi12, h⟩ := cd_n h
      refine py_ai (pc := 50) (len := 1) (cs := [103]) (t := 60) (n := 3) rfl rfl rfl hi12 List.mem_cons_self hS11 ?_
      have h := sb_e h
      refine py_pI (pc := 51) (len := 3) (cs := [69]) rfl rfl rfl List.mem_cons_self hS11 rfl rfl rfl rfl ?_
      have hS14 : oS (wF q8 69 31 (.int (aI q8 103 a1.toNatClampNeg))) := oS_wI (cs := [69]) (ci := 9) rfl List.mem_cons_self hS11
      generalize (wF q8 69 31 (.int (aI q8 103 a1.toNatClampNeg))) = h13 at h hS14 ⊢
      refine py_its (pc := 54) (pc1 := 56) (lv1 := [(0, .ref 69), (1, .int a1)]) (st1 := [.ref 69, .ref 69]) 2 (fun _ _ _ _ => rfl) ?_
      refine py_g1 104 (pc := 56) (len := 3) (cs := [69]) rfl rfl rfl List.mem_cons_self hS14 ?_
      refine py_its (pc := 59) (pc1 := 60) (lv1 := [(0, .ref 69), (1, .int a1)]) (st1 := [.int a1, .ref 104, .ref 69]) 1 (fun _ _ _ _ => rfl) ?_
      obtain ⟨hi15, h⟩ := cd_n h
      refine py_ai (pc := 60) (len := 1) (cs := [104]) (t := 61) (n := 3) rfl rfl rfl hi15 List.mem_cons_self hS14 ?_
      have h := sb_e h
      refine py_pI (pc := 61) (len := 3) (cs := [69]) rfl rfl rfl List.mem_cons_self hS14 rfl rfl rfl rfl ?_
      have hS17 : oS (wF h13 69 37 (.int (aI h13 104 a1.toNatClampNeg))) := oS_wI (cs := [69]) (ci := 9) rfl List.mem_cons_self hS14
      generalize (wF h13 69 37 (.int (aI h13 104 a1.toNatClampNeg))) = h16 at h hS17 ⊢
      refine py_its (pc := 64) (pc1 := 65) (lv1 := [(0, .ref 69), (1, .int a1)]) (st1 := [.int (Int32.ofInt 1)]) 1 (fun _ _ _ _ => rfl) ?_
      have h := Option.some.inj h
      subst h
      exact py_ir (pc := 65) (len := 1) (ty := .boolean) rfl rfl (by decide) hS17
    | false =>
      have h := cd_f hb5 h
      refine py_if (pc := 23) (len := 3) false rfl hb5 ?_
      refine py_its (pc := 26) (pc1 := 27) (lv1 := [(0, .ref 69), (1, .int a1)]) (st1 := [.int (Int32.ofInt 0)]) 1 (fun _ _ _ _ => rfl) ?_
      have h := Option.some.inj h
      subst h
      exact py_ir (pc := 27) (len := 1) (ty := .boolean) rfl rfl (by decide) hS2
/-! Text_add -/
noncomputable def fb_Text_add_L14 (v1 : Int32) (rc : Int32 → px_H → Option (Int32 × px_H)) (v2 : Int32) (hp : px_H) : Option (Int32 × px_H) :=
  bif px_cmp .lt v2 0 then
    some ((Int32.ofInt 1), hp)
  else
    bif px_inR (gI hp 12 1) 40 then
    sb (uI hp 13 (gI hp 12 1).toNatClampNeg ((nm_us v1 v2) &&& (Int16.ofInt 255).toInt32)) fun h4 =>
    sb (wF h4 12 1 (.int ((gI h4 12 1) + (Int32.ofInt 1)))) fun h6 =>
    rc (v2 + Int32.ofInt (-8)) h6
    else none
noncomputable def fn_Text_add_L14 (v1 : Int32) : Nat → Int32 → px_H → Option (Int32 × px_H)
  | 0 => fun _ _ => none
  | n + 1 => fb_Text_add_L14 v1 (fn_Text_add_L14 v1 n)
theorem fl_Text_add_L14 {v1 : Int32}  : ∀ (n : Nat) (v2 : Int32) (hp : px_H) (lv : List (Nat × Value)) (res : Int32 × px_H), oS hp → lk lv [(0, .ref 12), (1, .int v1), (2, .int v2)] → fn_Text_add_L14 v1 n v2 hp = some res → px_Y mm_Text_add 14 lv [] hp (some (.int res.1)) res.2 := by
  intro n
  induction n with
  | zero =>
    intro v2 hp lv res hS hk h
    cases h
  | succ n ih =>
    intro v2 hp lv res hS hk h
    have h : fb_Text_add_L14 v1 (fn_Text_add_L14 v1 n) v2 hp = some res := h
    unfold fb_Text_add_L14 at h
    refine py_iln (pc := 14) (len := 1) (j := 2) rfl hk rfl ?_
    cases hb2 : px_cmp .lt v2 0 with
    | true =>
      have h := cd_t hb2 h
      refine py_if (pc := 15) (len := 3) true rfl hb2 ?_
      refine py_its (pc := 50) (pc1 := 51) (lv1 := lv) (st1 := [.int (Int32.ofInt 1)]) 1 (fun _ _ _ _ => rfl) ?_
      have h := Option.some.inj h
      subst h
      exact py_ir (pc := 51) (len := 1) (ty := .boolean) rfl rfl (by decide) hS
    | false =>
      have h := cd_f hb2 h
      refine py_if (pc := 15) (len := 3) false rfl hb2 ?_
      refine py_aln (pc := 18) (len := 1) (j := 0) rfl hk rfl ?_
      refine py_g1 13 (pc := 19) (len := 3) (cs := [12]) rfl rfl rfl List.mem_cons_self hS ?_
      refine py_aln (pc := 22) (len := 1) (j := 0) rfl hk rfl ?_
      refine py_gI (pc := 23) (len := 3) (cs := [12]) rfl rfl rfl List.mem_cons_self hS ?_
      refine py_iln (pc := 26) (len := 1) (j := 1) rfl hk rfl ?_
      refine py_iln (pc := 27) (len := 1) (j := 2) rfl hk rfl ?_
      refine py_its (pc := 28) (pc1 := 33) (lv1 := lv) (st1 := [.int ((nm_us v1 v2) &&& (Int16.ofInt 255).toInt32), .int (gI hp 12 1), .ref 13]) 3 (fun _ _ _ _ => rfl) ?_
      obtain ⟨hi3, h⟩ := cd_n h
      have h := sb_e h
      refine py_si (pc := 33) (len := 1) (cs := [13]) (t := 11) (n := 40) rfl rfl rfl hi3 List.mem_cons_self hS ?_
      have hS5 : oS (uI hp 13 (gI hp 12 1).toNatClampNeg ((nm_us v1 v2) &&& (Int16.ofInt 255).toInt32)) := oS_uI (cs := [13]) (t := 11) (n := 40) rfl List.mem_cons_self hS
      generalize (uI hp 13 (gI hp 12 1).toNatClampNeg ((nm_us v1 v2) &&& (Int16.ofInt 255).toInt32)) = h4 at h hS5 ⊢
      refine py_aln (pc := 34) (len := 1) (j := 0) rfl hk rfl ?_
      refine py_its (pc := 35) (pc1 := 36) (lv1 := lv) (st1 := [.ref 12, .ref 12]) 1 (fun _ _ _ _ => rfl) ?_
      refine py_gI (pc := 36) (len := 3) (cs := [12]) rfl rfl rfl List.mem_cons_self hS5 ?_
      refine py_its (pc := 39) (pc1 := 41) (lv1 := lv) (st1 := [.int ((gI h4 12 1) + (Int32.ofInt 1)), .ref 12]) 2 (fun _ _ _ _ => rfl) ?_
      have h := sb_e h
      refine py_pI (pc := 41) (len := 3) (cs := [12]) rfl rfl rfl List.mem_cons_self hS5 rfl rfl rfl rfl ?_
      have hS7 : oS (wF h4 12 1 (.int ((gI h4 12 1) + (Int32.ofInt 1)))) := oS_wI (cs := [12]) (ci := 5) rfl List.mem_cons_self hS5
      generalize (wF h4 12 1 (.int ((gI h4 12 1) + (Int32.ofInt 1)))) = h6 at h hS7 ⊢
      refine py_inc (pc := 44) (len := 3) (j := 2) (n := (-8)) rfl rfl hk rfl (fun lv8 hk9 => ?_)
      have hk9 : lk lv8 [(2, .int (v2 + Int32.ofInt (-8))), (0, .ref 12), (1, .int v1)] := hk9
      refine py_its (pc := 47) (pc1 := 14) (lv1 := lv8) (st1 := []) 1 (fun _ _ _ _ => rfl) ?_
      exact ih (v2 + Int32.ofInt (-8)) h6 lv8 _ hS7 ⟨lk_find hk9 rfl, lk_find hk9 rfl, lk_find hk9 rfl, trivial⟩ h
noncomputable def fn_Text_add (a1 : Int32) (hp : px_H) : Option (Int32 × px_H) :=
  bif px_cmp .le (gI hp 12 1) (Int8.ofInt 36).toInt32 then
    fn_Text_add_L14 a1 fu (Int8.ofInt 24).toInt32 hp
  else
    some ((Int32.ofInt 0), hp)
theorem fx_Text_add {a1 : Int32} {hp : px_H} {res : Int32 × px_H} (hS : oS hp) (h : fn_Text_add a1 hp = some res) : px_C nm_T nm_P mi_Text_add [.ref 12, .int a1] hp (some (.int res.1)) res.2 ∧ oS res.2 := by
  unfold fn_Text_add at h
  refine py_C (M := mm_Text_add) rfl (Nat.le_of_ble_eq_true rfl) ?_
  show px_Y mm_Text_add 0 [(0, .ref 12), (1, .int a1)] [] hp _ _
  refine py_its (pc := 0) (pc1 := 1) (lv1 := [(0, .ref 12), (1, .int a1)]) (st1 := [.ref 12]) 1 (fun _ _ _ _ => rfl) ?_
  refine py_gI (pc := 1) (len := 3) (cs := [12]) rfl rfl rfl List.mem_cons_self hS ?_
  refine py_its (pc := 4) (pc1 := 6) (lv1 := [(0, .ref 12), (1, .int a1)]) (st1 := [.int (Int8.ofInt 36).toInt32, .int (gI hp 12 1)]) 1 (fun _ _ _ _ => rfl) ?_
  cases hb1 : px_cmp .le (gI hp 12 1) (Int8.ofInt 36).toInt32 with
  | true =>
    have h := cd_t hb1 h
    refine py_ic (pc := 6) (len := 3) true rfl hb1 ?_
    refine py_its (pc := 11) (pc1 := 14) (lv1 := [(2, .int (Int8.ofInt 24).toInt32), (0, .ref 12), (1, .int a1)]) (st1 := []) 2 (fun _ _ _ _ => rfl) ?_
    exact fl_Text_add_L14 fu (Int8.ofInt 24).toInt32 hp [(2, .int (Int8.ofInt 24).toInt32), (0, .ref 12), (1, .int a1)] _ hS ⟨rfl, rfl, rfl, trivial⟩ h
  | false =>
    have h := cd_f hb1 h
    refine py_ic (pc := 6) (len := 3) false rfl hb1 ?_
    refine py_its (pc := 9) (pc1 := 10) (lv1 := [(0, .ref 12), (1, .int a1)]) (st1 := [.int (Int32.ofInt 0)]) 1 (fun _ _ _ _ => rfl) ?_
    have h := Option.some.inj h
    subst h
    exact py_ir (pc := 10) (len := 1) (ty := .boolean) rfl rfl (by decide) hS
/-! X_sign -/
noncomputable def fn_X_sign (a1 : Int32) (hp : px_H) : Option (Int32 × px_H) :=
  (fn_Text_add a1 hp).bind fun q1 =>
  bif px_cmp .eq q1.1 0 then
    some ((Int32.ofInt (-1)), q1.2)
  else
    some ((gI q1.2 12 1), q1.2)
theorem fx_X_sign {a1 : Int32} {hp : px_H} {res : Int32 × px_H} (hS : oS hp) (h : fn_X_sign a1 hp = some res) : px_C nm_T nm_P mi_X_sign [.ref 0, .int a1] hp (some (.int res.1)) res.2 ∧ oS res.2 := by
  unfold fn_X_sign at h
  refine py_C (M := mm_X_sign) rfl (Nat.le_of_ble_eq_true rfl) ?_
  show px_Y mm_X_sign 0 [(0, .ref 0), (1, .int a1)] [] hp _ _
  refine py_its (pc := 0) (pc1 := 1) (lv1 := [(0, .ref 0), (1, .int a1)]) (st1 := [.ref 0]) 1 (fun _ _ _ _ => rfl) ?_
  refine py_g1 12 (pc := 1) (len := 3) (cs := [0]) rfl rfl rfl List.mem_cons_self hS ?_
  refine py_its (pc := 4) (pc1 := 5) (lv1 := [(0, .ref 0), (1, .int a1)]) (st1 := [.int a1, .ref 12]) 1 (fun _ _ _ _ => rfl) ?_
  obtain ⟨q1, hq2, h⟩ := bd_e h
  obtain ⟨hC3, hS4⟩ := fx_Text_add hS hq2
  refine py_vi (pc := 5) (mi := mi_Text_add) (cs := [12]) (N := mm_Text_add) rfl rfl rfl rfl List.mem_cons_self hS rfl (Nat.le_of_ble_eq_true rfl) (Nat.le_of_ble_eq_true rfl) rfl rfl hC3 ?_
  show px_Y mm_X_sign 8 [(0, .ref 0), (1, .int a1)] [.int q1.1] q1.2 _ _
  cases hb5 : px_cmp .eq q1.1 0 with
  | true =>
    have h := cd_t hb5 h
    refine py_if (pc := 8) (len := 3) true rfl hb5 ?_
    refine py_its (pc := 21) (pc1 := 22) (lv1 := [(0, .ref 0), (1, .int a1)]) (st1 := [.int (Int32.ofInt (-1))]) 1 (fun _ _ _ _ => rfl) ?_
    have h := Option.some.inj h
    subst h
    exact py_ir (pc := 22) (len := 1) (ty := .int) rfl rfl rfl hS4
  | false =>
    have h := cd_f hb5 h
    refine py_if (pc := 8) (len := 3) false rfl hb5 ?_
    refine py_its (pc := 11) (pc1 := 12) (lv1 := [(0, .ref 0), (1, .int a1)]) (st1 := [.ref 0]) 1 (fun _ _ _ _ => rfl) ?_
    refine py_g1 12 (pc := 12) (len := 3) (cs := [0]) rfl rfl rfl List.mem_cons_self hS4 ?_
    refine py_gI (pc := 15) (len := 3) (cs := [12]) rfl rfl rfl List.mem_cons_self hS4 ?_
    refine py_its (pc := 18) (pc1 := 22) (lv1 := [(0, .ref 0), (1, .int a1)]) (st1 := [.int (gI q1.2 12 1)]) 1 (fun _ _ _ _ => rfl) ?_
    have h := Option.some.inj h
    subst h
    exact py_ir (pc := 22) (len := 1) (ty := .int) rfl rfl rfl hS4
/-! Text_cut -/
noncomputable def fn_Text_cut (a1 : Int32) (hp : px_H) : Option (Int32 × px_H) :=
  bif px_cmp .lt a1 0 then
    some ((Int32.ofInt 0), hp)
  else
    bif px_cmp .le a1 (gI hp 12 1) then
      sb (wF hp 12 1 (.int a1)) fun h3 =>
      some ((Int32.ofInt 1), h3)
    else
      some ((Int32.ofInt 0), hp)
theorem fx_Text_cut {a1 : Int32} {hp : px_H} {res : Int32 × px_H} (hS : oS hp) (h : fn_Text_cut a1 hp = some res) : px_C nm_T nm_P mi_Text_cut [.ref 12, .int a1] hp (some (.int res.1)) res.2 ∧ oS res.2 := by
  unfold fn_Text_cut at h
  refine py_C (M := mm_Text_cut) rfl (Nat.le_of_ble_eq_true rfl) ?_
  show px_Y mm_Text_cut 0 [(0, .ref 12), (1, .int a1)] [] hp _ _
  refine py_its (pc := 0) (pc1 := 1) (lv1 := [(0, .ref 12), (1, .int a1)]) (st1 := [.int a1]) 1 (fun _ _ _ _ => rfl) ?_
  cases hb1 : px_cmp .lt a1 0 with
  | true =>
    have h := cd_t hb1 h
    refine py_if (pc := 1) (len := 3) true rfl hb1 ?_
    refine py_its (pc := 12) (pc1 := 13) (lv1 := [(0, .ref 12), (1, .int a1)]) (st1 := [.int (Int32.ofInt 0)]) 1 (fun _ _ _ _ => rfl) ?_
    have h := Option.some.inj h
    subst h
    exact py_ir (pc := 13) (len := 1) (ty := .boolean) rfl rfl (by decide) hS
  | false =>
    have h := cd_f hb1 h
    refine py_if (pc := 1) (len := 3) false rfl hb1 ?_
    refine py_its (pc := 4) (pc1 := 6) (lv1 := [(0, .ref 12), (1, .int a1)]) (st1 := [.ref 12, .int a1]) 2 (fun _ _ _ _ => rfl) ?_
    refine py_gI (pc := 6) (len := 3) (cs := [12]) rfl rfl rfl List.mem_cons_self hS ?_
    cases hb2 : px_cmp .le a1 (gI hp 12 1) with
    | true =>
      have h := cd_t hb2 h
      refine py_ic (pc := 9) (len := 3) true rfl hb2 ?_
      refine py_its (pc := 14) (pc1 := 16) (lv1 := [(0, .ref 12), (1, .int a1)]) (st1 := [.int a1, .ref 12]) 2 (fun _ _ _ _ => rfl) ?_
      have h := sb_e h
      refine py_pI (pc := 16) (len := 3) (cs := [12]) rfl rfl rfl List.mem_cons_self hS rfl rfl rfl rfl ?_
      have hS4 : oS (wF hp 12 1 (.int a1)) := oS_wI (cs := [12]) (ci := 5) rfl List.mem_cons_self hS
      generalize (wF hp 12 1 (.int a1)) = h3 at h hS4 ⊢
      refine py_its (pc := 19) (pc1 := 20) (lv1 := [(0, .ref 12), (1, .int a1)]) (st1 := [.int (Int32.ofInt 1)]) 1 (fun _ _ _ _ => rfl) ?_
      have h := Option.some.inj h
      subst h
      exact py_ir (pc := 20) (len := 1) (ty := .boolean) rfl rfl (by decide) hS4
    | false =>
      have h := cd_f hb2 h
      refine py_ic (pc := 9) (len := 3) false rfl hb2 ?_
      refine py_its (pc := 12) (pc1 := 13) (lv1 := [(0, .ref 12), (1, .int a1)]) (st1 := [.int (Int32.ofInt 0)]) 1 (fun _ _ _ _ => rfl) ?_
      have h := Option.some.inj h
      subst h
      exact py_ir (pc := 13) (len := 1) (ty := .boolean) rfl rfl (by decide) hS
/-! X_end -/
noncomputable def fn_X_end (a1 : Int32) (hp : px_H) : Option (Int32 × px_H) :=
  (fn_Text_cut a1 hp).bind fun q1 =>
  bif px_zr .boolean q1.1 then
  some (q1.1, q1.2)
  else none
theorem fx_X_end {a1 : Int32} {hp : px_H} {res : Int32 × px_H} (hS : oS hp) (h : fn_X_end a1 hp = some res) : px_C nm_T nm_P mi_X_end [.ref 0, .int a1] hp (some (.int res.1)) res.2 ∧ oS res.2 := by
  unfold fn_X_end at h
  refine py_C (M := mm_X_end) rfl (Nat.le_of_ble_eq_true rfl) ?_
  show px_Y mm_X_end 0 [(0, .ref 0), (1, .int a1)] [] hp _ _
  refine py_its (pc := 0) (pc1 := 1) (lv1 := [(0, .ref 0), (1, .int a1)]) (st1 := [.ref 0]) 1 (fun _ _ _ _ => rfl) ?_
  refine py_g1 12 (pc := 1) (len := 3) (cs := [0]) rfl rfl rfl List.mem_cons_self hS ?_
  refine py_its (pc := 4) (pc1 := 5) (lv1 := [(0, .ref 0), (1, .int a1)]) (st1 := [.int a1, .ref 12]) 1 (fun _ _ _ _ => rfl) ?_
  obtain ⟨q1, hq2, h⟩ := bd_e h
  obtain ⟨hC3, hS4⟩ := fx_Text_cut hS hq2
  refine py_vi (pc := 5) (mi := mi_Text_cut) (cs := [12]) (N := mm_Text_cut) rfl rfl rfl rfl List.mem_cons_self hS rfl (Nat.le_of_ble_eq_true rfl) (Nat.le_of_ble_eq_true rfl) rfl rfl hC3 ?_
  show px_Y mm_X_end 8 [(0, .ref 0), (1, .int a1)] [.int q1.1] q1.2 _ _
  obtain ⟨hz5, h⟩ := cd_n h
  have h := Option.some.inj h
  subst h
  exact py_ir (pc := 8) (len := 1) (ty := .boolean) rfl rfl hz5 hS4
/-! Text_behind -/
noncomputable def fn_Text_behind (a0 : Int32) (a1 : Int32) (hp : px_H) : Option (Int32) :=
  bif px_cmp .eq a0 (Int32.ofInt 0) then
    bif px_cmp .ne a1 (Int8.ofInt 115).toInt32 then
      bif px_cmp .eq a1 (Int8.ofInt 107).toInt32 then
        some (Int32.ofInt 2)
      else
        bif px_cmp .eq a1 (Int8.ofInt 100).toInt32 then
          some (Int32.ofInt 2)
        else
          bif px_cmp .ne a1 (Int8.ofInt 119).toInt32 then
            some (Int32.ofInt (-1))
          else
            some (Int32.ofInt 2)
    else
      some (Int32.ofInt 1)
  else
    bif px_cmp .eq a0 (Int32.ofInt 1) then
      bif px_cmp .lt a1 (Int8.ofInt 49).toInt32 then
        some (Int32.ofInt (-1))
      else
        bif px_cmp .gt a1 (Int8.ofInt 54).toInt32 then
          some (Int32.ofInt (-1))
        else
          some (Int32.ofInt 2)
    else
      bif px_cmp .eq a0 (Int32.ofInt 2) then
        bif px_cmp .eq a1 (Int8.ofInt 98).toInt32 then
          some (Int32.ofInt 3)
        else
          bif px_cmp .eq a1 (Int8.ofInt 116).toInt32 then
            some (Int32.ofInt 3)
          else
            bif px_cmp .ne a1 (Int8.ofInt 108).toInt32 then
              some (Int32.ofInt (-1))
            else
              some (Int32.ofInt 3)
      else
        bif px_cmp .ne a1 (Int8.ofInt 59).toInt32 then
          some (Int32.ofInt (-1))
        else
          some (Int32.ofInt 0)
theorem fx_Text_behind {a0 : Int32} {a1 : Int32} {hp : px_H} {res : Int32} (hS : oS hp) (h : fn_Text_behind a0 a1 hp = some res) : px_C nm_T nm_P mi_Text_behind [.int a0, .int a1] hp (some (.int res)) hp ∧ oS hp := by
  unfold fn_Text_behind at h
  refine py_C (M := mm_Text_behind) rfl (Nat.le_of_ble_eq_true rfl) ?_
  show px_Y mm_Text_behind 0 [(0, .int a0), (1, .int a1)] [] hp _ _
  refine py_its (pc := 0) (pc1 := 1) (lv1 := [(0, .int a0), (1, .int a1)]) (st1 := [.int a0]) 1 (fun _ _ _ _ => rfl) ?_
  cases hb1 : px_cmp .eq a0 (Int32.ofInt 0) with
  | true =>
    have h := cd_t hb1 h
    refine py_tsw (pc := 1) (len := 27) (off := 27) rfl (by rw [sx_eq hb1]; rfl) ?_
    refine py_its (pc := 28) (pc1 := 31) (lv1 := [(0, .int a0), (1, .int a1)]) (st1 := [.int (Int8.ofInt 115).toInt32, .int a1]) 2 (fun _ _ _ _ => rfl) ?_
    cases hb2 : px_cmp .ne a1 (Int8.ofInt 115).toInt32 with
    | true =>
      have h := cd_t hb2 h
      refine py_ic (pc := 31) (len := 3) true rfl hb2 ?_
      refine py_its (pc := 36) (pc1 := 39) (lv1 := [(0, .int a0), (1, .int a1)]) (st1 := [.int (Int8.ofInt 107).toInt32, .int a1]) 2 (fun _ _ _ _ => rfl) ?_
      cases hb3 : px_cmp .eq a1 (Int8.ofInt 107).toInt32 with
      | true =>
        have h := cd_t hb3 h
        refine py_ic (pc := 39) (len := 3) true rfl hb3 ?_
        refine py_its (pc := 54) (pc1 := 59) (lv1 := [(0, .int a0), (1, .int a1)]) (st1 := [.int (Int32.ofInt 2)]) 2 (fun _ _ _ _ => rfl) ?_
        have h := Option.some.inj h
        subst h
        exact py_ir (pc := 59) (len := 1) (ty := .int) rfl rfl rfl hS
      | false =>
        have h := cd_f hb3 h
        refine py_ic (pc := 39) (len := 3) false rfl hb3 ?_
        refine py_its (pc := 42) (pc1 := 45) (lv1 := [(0, .int a0), (1, .int a1)]) (st1 := [.int (Int8.ofInt 100).toInt32, .int a1]) 2 (fun _ _ _ _ => rfl) ?_
        cases hb4 : px_cmp .eq a1 (Int8.ofInt 100).toInt32 with
        | true =>
          have h := cd_t hb4 h
          refine py_ic (pc := 45) (len := 3) true rfl hb4 ?_
          refine py_its (pc := 54) (pc1 := 59) (lv1 := [(0, .int a0), (1, .int a1)]) (st1 := [.int (Int32.ofInt 2)]) 2 (fun _ _ _ _ => rfl) ?_
          have h := Option.some.inj h
          subst h
          exact py_ir (pc := 59) (len := 1) (ty := .int) rfl rfl rfl hS
        | false =>
          have h := cd_f hb4 h
          refine py_ic (pc := 45) (len := 3) false rfl hb4 ?_
          refine py_its (pc := 48) (pc1 := 51) (lv1 := [(0, .int a0), (1, .int a1)]) (st1 := [.int (Int8.ofInt 119).toInt32, .int a1]) 2 (fun _ _ _ _ => rfl) ?_
          cases hb5 : px_cmp .ne a1 (Int8.ofInt 119).toInt32 with
          | true =>
            have h := cd_t hb5 h
            refine py_ic (pc := 51) (len := 3) true rfl hb5 ?_
            refine py_its (pc := 58) (pc1 := 59) (lv1 := [(0, .int a0), (1, .int a1)]) (st1 := [.int (Int32.ofInt (-1))]) 1 (fun _ _ _ _ => rfl) ?_
            have h := Option.some.inj h
            subst h
            exact py_ir (pc := 59) (len := 1) (ty := .int) rfl rfl rfl hS
          | false =>
            have h := cd_f hb5 h
            refine py_ic (pc := 51) (len := 3) false rfl hb5 ?_
            refine py_its (pc := 54) (pc1 := 59) (lv1 := [(0, .int a0), (1, .int a1)]) (st1 := [.int (Int32.ofInt 2)]) 2 (fun _ _ _ _ => rfl) ?_
            have h := Option.some.inj h
            subst h
            exact py_ir (pc := 59) (len := 1) (ty := .int) rfl rfl rfl hS
    | false =>
      have h := cd_f hb2 h
      refine py_ic (pc := 31) (len := 3) false rfl hb2 ?_
      refine py_its (pc := 34) (pc1 := 35) (lv1 := [(0, .int a0), (1, .int a1)]) (st1 := [.int (Int32.ofInt 1)]) 1 (fun _ _ _ _ => rfl) ?_
      have h := Option.some.inj h
      subst h
      exact py_ir (pc := 35) (len := 1) (ty := .int) rfl rfl rfl hS
  | false =>
    have h := cd_f hb1 h
    cases hb6 : px_cmp .eq a0 (Int32.ofInt 1) with
    | true =>
      have h := cd_t hb6 h
      refine py_tsw (pc := 1) (len := 27) (off := 59) rfl (by rw [sx_eq hb6]; rfl) ?_
      refine py_its (pc := 60) (pc1 := 63) (lv1 := [(0, .int a0), (1, .int a1)]) (st1 := [.int (Int8.ofInt 49).toInt32, .int a1]) 2 (fun _ _ _ _ => rfl) ?_
      cases hb7 : px_cmp .lt a1 (Int8.ofInt 49).toInt32 with
      | true =>
        have h := cd_t hb7 h
        refine py_ic (pc := 63) (len := 3) true rfl hb7 ?_
        refine py_its (pc := 76) (pc1 := 77) (lv1 := [(0, .int a0), (1, .int a1)]) (st1 := [.int (Int32.ofInt (-1))]) 1 (fun _ _ _ _ => rfl) ?_
        have h := Option.some.inj h
        subst h
        exact py_ir (pc := 77) (len := 1) (ty := .int) rfl rfl rfl hS
      | false =>
        have h := cd_f hb7 h
        refine py_ic (pc := 63) (len := 3) false rfl hb7 ?_
        refine py_its (pc := 66) (pc1 := 69) (lv1 := [(0, .int a0), (1, .int a1)]) (st1 := [.int (Int8.ofInt 54).toInt32, .int a1]) 2 (fun _ _ _ _ => rfl) ?_
        cases hb8 : px_cmp .gt a1 (Int8.ofInt 54).toInt32 with
        | true =>
          have h := cd_t hb8 h
          refine py_ic (pc := 69) (len := 3) true rfl hb8 ?_
          refine py_its (pc := 76) (pc1 := 77) (lv1 := [(0, .int a0), (1, .int a1)]) (st1 := [.int (Int32.ofInt (-1))]) 1 (fun _ _ _ _ => rfl) ?_
          have h := Option.some.inj h
          subst h
          exact py_ir (pc := 77) (len := 1) (ty := .int) rfl rfl rfl hS
        | false =>
          have h := cd_f hb8 h
          refine py_ic (pc := 69) (len := 3) false rfl hb8 ?_
          refine py_its (pc := 72) (pc1 := 77) (lv1 := [(0, .int a0), (1, .int a1)]) (st1 := [.int (Int32.ofInt 2)]) 2 (fun _ _ _ _ => rfl) ?_
          have h := Option.some.inj h
          subst h
          exact py_ir (pc := 77) (len := 1) (ty := .int) rfl rfl rfl hS
    | false =>
      have h := cd_f hb6 h
      cases hb9 : px_cmp .eq a0 (Int32.ofInt 2) with
      | true =>
        have h := cd_t hb9 h
        refine py_tsw (pc := 1) (len := 27) (off := 77) rfl (by rw [sx_eq hb9]; rfl) ?_
        refine py_its (pc := 78) (pc1 := 81) (lv1 := [(0, .int a0), (1, .int a1)]) (st1 := [.int (Int8.ofInt 98).toInt32, .int a1]) 2 (fun _ _ _ _ => rfl) ?_
        cases hb10 : px_cmp .eq a1 (Int8.ofInt 98).toInt32 with
        | true =>
          have h := cd_t hb10 h
          refine py_ic (pc := 81) (len := 3) true rfl hb10 ?_
          refine py_its (pc := 96) (pc1 := 101) (lv1 := [(0, .int a0), (1, .int a1)]) (st1 := [.int (Int32.ofInt 3)]) 2 (fun _ _ _ _ => rfl) ?_
          have h := Option.some.inj h
          subst h
          exact py_ir (pc := 101) (len := 1) (ty := .int) rfl rfl rfl hS
        | false =>
          have h := cd_f hb10 h
          refine py_ic (pc := 81) (len := 3) false rfl hb10 ?_
          refine py_its (pc := 84) (pc1 := 87) (lv1 := [(0, .int a0), (1, .int a1)]) (st1 := [.int (Int8.ofInt 116).toInt32, .int a1]) 2 (fun _ _ _ _ => rfl) ?_
          cases hb11 : px_cmp .eq a1 (Int8.ofInt 116).toInt32 with
          | true =>
            have h := cd_t hb11 h
            refine py_ic (pc := 87) (len := 3) true rfl hb11 ?_
            refine py_its (pc := 96) (pc1 := 101) (lv1 := [(0, .int a0), (1, .int a1)]) (st1 := [.int (Int32.ofInt 3)]) 2 (fun _ _ _ _ => rfl) ?_
            have h := Option.some.inj h
            subst h
            exact py_ir (pc := 101) (len := 1) (ty := .int) rfl rfl rfl hS
          | false =>
            have h := cd_f hb11 h
            refine py_ic (pc := 87) (len := 3) false rfl hb11 ?_
            refine py_its (pc := 90) (pc1 := 93) (lv1 := [(0, .int a0), (1, .int a1)]) (st1 := [.int (Int8.ofInt 108).toInt32, .int a1]) 2 (fun _ _ _ _ => rfl) ?_
            cases hb12 : px_cmp .ne a1 (Int8.ofInt 108).toInt32 with
            | true =>
              have h := cd_t hb12 h
              refine py_ic (pc := 93) (len := 3) true rfl hb12 ?_
              refine py_its (pc := 100) (pc1 := 101) (lv1 := [(0, .int a0), (1, .int a1)]) (st1 := [.int (Int32.ofInt (-1))]) 1 (fun _ _ _ _ => rfl) ?_
              have h := Option.some.inj h
              subst h
              exact py_ir (pc := 101) (len := 1) (ty := .int) rfl rfl rfl hS
            | false =>
              have h := cd_f hb12 h
              refine py_ic (pc := 93) (len := 3) false rfl hb12 ?_
              refine py_its (pc := 96) (pc1 := 101) (lv1 := [(0, .int a0), (1, .int a1)]) (st1 := [.int (Int32.ofInt 3)]) 2 (fun _ _ _ _ => rfl) ?_
              have h := Option.some.inj h
              subst h
              exact py_ir (pc := 101) (len := 1) (ty := .int) rfl rfl rfl hS
      | false =>
        have h := cd_f hb9 h
        refine py_tsw (pc := 1) (len := 27) (off := 101) rfl (sx_tod (lo := 0) (hi := 2) (fun k h1 h2 => by rcases (show k = 0 ∨ k = 1 ∨ k = 2 from by omega) with rfl | rfl | rfl <;> assumption)) ?_
        refine py_its (pc := 102) (pc1 := 105) (lv1 := [(0, .int a0), (1, .int a1)]) (st1 := [.int (Int8.ofInt 59).toInt32, .int a1]) 2 (fun _ _ _ _ => rfl) ?_
        cases hb13 : px_cmp .ne a1 (Int8.ofInt 59).toInt32 with
        | true =>
          have h := cd_t hb13 h
          refine py_ic (pc := 105) (len := 3) true rfl hb13 ?_
          refine py_its (pc := 112) (pc1 := 113) (lv1 := [(0, .int a0), (1, .int a1)]) (st1 := [.int (Int32.ofInt (-1))]) 1 (fun _ _ _ _ => rfl) ?_
          have h := Option.some.inj h
          subst h
          exact py_ir (pc := 113) (len := 1) (ty := .int) rfl rfl rfl hS
        | false =>
          have h := cd_f hb13 h
          refine py_ic (pc := 105) (len := 3) false rfl hb13 ?_
          refine py_its (pc := 108) (pc1 := 113) (lv1 := [(0, .int a0), (1, .int a1)]) (st1 := [.int (Int32.ofInt 0)]) 2 (fun _ _ _ _ => rfl) ?_
          have h := Option.some.inj h
          subst h
          exact py_ir (pc := 113) (len := 1) (ty := .int) rfl rfl rfl hS
/-! Text_firstFault -/
noncomputable def fb_Text_firstFault_L4 (hp : px_H) (rc : Int32 → Int32 → Option (Int32)) (v1 : Int32) (v2 : Int32) : Option (Int32) :=
  bif px_cmp .ge v2 (gI hp 12 1) then
    bif px_cmp .le (gI hp 12 1) (Int8.ofInt 20).toInt32 then
      bif px_cmp .eq (gI hp 12 1) 0 then
        some (Int32.ofInt (-1))
      else
        bif px_cmp .ne v1 (Int32.ofInt 3) then
          some (gI hp 12 1)
        else
          some (Int32.ofInt (-1))
    else
      some (Int8.ofInt 20).toInt32
  else
    bif px_cmp .ge v2 (Int8.ofInt 20).toInt32 then
      bif px_cmp .le (gI hp 12 1) (Int8.ofInt 20).toInt32 then
        bif px_cmp .eq (gI hp 12 1) 0 then
          some (Int32.ofInt (-1))
        else
          bif px_cmp .ne v1 (Int32.ofInt 3) then
            some (gI hp 12 1)
          else
            some (Int32.ofInt (-1))
      else
        some (Int8.ofInt 20).toInt32
    else
      bif px_inR v2 40 then
      (fn_Text_behind v1 (aI hp 13 v2.toNatClampNeg) hp).bind fun q10 =>
      bif px_cmp .ge q10 0 then
        rc q10 (v2 + Int32.ofInt 1)
      else
        some v2
      else none
noncomputable def fn_Text_firstFault_L4 (hp : px_H) : Nat → Int32 → Int32 → Option (Int32)
  | 0 => fun _ _ => none
  | n + 1 => fb_Text_firstFault_L4 hp (fn_Text_firstFault_L4 hp n)
theorem fl_Text_firstFault_L4 {hp : px_H}  : ∀ (n : Nat) (v1 : Int32) (v2 : Int32) (lv : List (Nat × Value)) (res : Int32), oS hp → lk lv [(0, .ref 12), (1, .int v1), (2, .int v2)] → fn_Text_firstFault_L4 hp n v1 v2 = some res → px_Y mm_Text_firstFault 4 lv [] hp (some (.int res)) hp := by
  intro n
  induction n with
  | zero =>
    intro v1 v2 lv res hS hk h
    cases h
  | succ n ih =>
    intro v1 v2 lv res hS hk h
    have h : fb_Text_firstFault_L4 hp (fn_Text_firstFault_L4 hp n) v1 v2 = some res := h
    unfold fb_Text_firstFault_L4 at h
    refine py_iln (pc := 4) (len := 1) (j := 2) rfl hk rfl ?_
    refine py_aln (pc := 5) (len := 1) (j := 0) rfl hk rfl ?_
    refine py_gI (pc := 6) (len := 3) (cs := [12]) rfl rfl rfl List.mem_cons_self hS ?_
    cases hb1 : px_cmp .ge v2 (gI hp 12 1) with
    | true =>
      have h := cd_t hb1 h
      refine py_ic (pc := 9) (len := 3) true rfl hb1 ?_
      refine py_aln (pc := 41) (len := 1) (j := 0) rfl hk rfl ?_
      refine py_gI (pc := 42) (len := 3) (cs := [12]) rfl rfl rfl List.mem_cons_self hS ?_
      refine py_its (pc := 45) (pc1 := 47) (lv1 := lv) (st1 := [.int (Int8.ofInt 20).toInt32, .int (gI hp 12 1)]) 1 (fun _ _ _ _ => rfl) ?_
      cases hb2 : px_cmp .le (gI hp 12 1) (Int8.ofInt 20).toInt32 with
      | true =>
        have h := cd_t hb2 h
        refine py_ic (pc := 47) (len := 3) true rfl hb2 ?_
        refine py_aln (pc := 53) (len := 1) (j := 0) rfl hk rfl ?_
        refine py_gI (pc := 54) (len := 3) (cs := [12]) rfl rfl rfl List.mem_cons_self hS ?_
        cases hb3 : px_cmp .eq (gI hp 12 1) 0 with
        | true =>
          have h := cd_t hb3 h
          refine py_if (pc := 57) (len := 3) true rfl hb3 ?_
          refine py_its (pc := 65) (pc1 := 73) (lv1 := lv) (st1 := [.int (Int32.ofInt (-1))]) 2 (fun _ _ _ _ => rfl) ?_
          have h := Option.some.inj h
          subst h
          exact py_ir (pc := 73) (len := 1) (ty := .int) rfl rfl rfl hS
        | false =>
          have h := cd_f hb3 h
          refine py_if (pc := 57) (len := 3) false rfl hb3 ?_
          refine py_iln (pc := 60) (len := 1) (j := 1) rfl hk rfl ?_
          refine py_its (pc := 61) (pc1 := 62) (lv1 := lv) (st1 := [.int (Int32.ofInt 3), .int v1]) 1 (fun _ _ _ _ => rfl) ?_
          cases hb4 : px_cmp .ne v1 (Int32.ofInt 3) with
          | true =>
            have h := cd_t hb4 h
            refine py_ic (pc := 62) (len := 3) true rfl hb4 ?_
            refine py_aln (pc := 69) (len := 1) (j := 0) rfl hk rfl ?_
            refine py_gI (pc := 70) (len := 3) (cs := [12]) rfl rfl rfl List.mem_cons_self hS ?_
            have h := Option.some.inj h
            subst h
            exact py_ir (pc := 73) (len := 1) (ty := .int) rfl rfl rfl hS
          | false =>
            have h := cd_f hb4 h
            refine py_ic (pc := 62) (len := 3) false rfl hb4 ?_
            refine py_its (pc := 65) (pc1 := 73) (lv1 := lv) (st1 := [.int (Int32.ofInt (-1))]) 2 (fun _ _ _ _ => rfl) ?_
            have h := Option.some.inj h
            subst h
            exact py_ir (pc := 73) (len := 1) (ty := .int) rfl rfl rfl hS
      | false =>
        have h := cd_f hb2 h
        refine py_ic (pc := 47) (len := 3) false rfl hb2 ?_
        refine py_its (pc := 50) (pc1 := 52) (lv1 := lv) (st1 := [.int (Int8.ofInt 20).toInt32]) 1 (fun _ _ _ _ => rfl) ?_
        have h := Option.some.inj h
        subst h
        exact py_ir (pc := 52) (len := 1) (ty := .int) rfl rfl rfl hS
    | false =>
      have h := cd_f hb1 h
      refine py_ic (pc := 9) (len := 3) false rfl hb1 ?_
      refine py_iln (pc := 12) (len := 1) (j := 2) rfl hk rfl ?_
      refine py_its (pc := 13) (pc1 := 15) (lv1 := lv) (st1 := [.int (Int8.ofInt 20).toInt32, .int v2]) 1 (fun _ _ _ _ => rfl) ?_
      cases hb5 : px_cmp .ge v2 (Int8.ofInt 20).toInt32 with
      | true =>
        have h := cd_t hb5 h
        refine py_ic (pc := 15) (len := 3) true rfl hb5 ?_
        refine py_aln (pc := 41) (len := 1) (j := 0) rfl hk rfl ?_
        refine py_gI (pc := 42) (len := 3) (cs := [12]) rfl rfl rfl List.mem_cons_self hS ?_
        refine py_its (pc := 45) (pc1 := 47) (lv1 := lv) (st1 := [.int (Int8.ofInt 20).toInt32, .int (gI hp 12 1)]) 1 (fun _ _ _ _ => rfl) ?_
        cases hb6 : px_cmp .le (gI hp 12 1) (Int8.ofInt 20).toInt32 with
        | true =>
          have h := cd_t hb6 h
          refine py_ic (pc := 47) (len := 3) true rfl hb6 ?_
          refine py_aln (pc := 53) (len := 1) (j := 0) rfl hk rfl ?_
          refine py_gI (pc := 54) (len := 3) (cs := [12]) rfl rfl rfl List.mem_cons_self hS ?_
          cases hb7 : px_cmp .eq (gI hp 12 1) 0 with
          | true =>
            have h := cd_t hb7 h
            refine py_if (pc := 57) (len := 3) true rfl hb7 ?_
            refine py_its (pc := 65) (pc1 := 73) (lv1 := lv) (st1 := [.int (Int32.ofInt (-1))]) 2 (fun _ _ _ _ => rfl) ?_
            have h := Option.some.inj h
            subst h
            exact py_ir (pc := 73) (len := 1) (ty := .int) rfl rfl rfl hS
          | false =>
            have h := cd_f hb7 h
            refine py_if (pc := 57) (len := 3) false rfl hb7 ?_
            refine py_iln (pc := 60) (len := 1) (j := 1) rfl hk rfl ?_
            refine py_its (pc := 61) (pc1 := 62) (lv1 := lv) (st1 := [.int (Int32.ofInt 3), .int v1]) 1 (fun _ _ _ _ => rfl) ?_
            cases hb8 : px_cmp .ne v1 (Int32.ofInt 3) with
            | true =>
              have h := cd_t hb8 h
              refine py_ic (pc := 62) (len := 3) true rfl hb8 ?_
              refine py_aln (pc := 69) (len := 1) (j := 0) rfl hk rfl ?_
              refine py_gI (pc := 70) (len := 3) (cs := [12]) rfl rfl rfl List.mem_cons_self hS ?_
              have h := Option.some.inj h
              subst h
              exact py_ir (pc := 73) (len := 1) (ty := .int) rfl rfl rfl hS
            | false =>
              have h := cd_f hb8 h
              refine py_ic (pc := 62) (len := 3) false rfl hb8 ?_
              refine py_its (pc := 65) (pc1 := 73) (lv1 := lv) (st1 := [.int (Int32.ofInt (-1))]) 2 (fun _ _ _ _ => rfl) ?_
              have h := Option.some.inj h
              subst h
              exact py_ir (pc := 73) (len := 1) (ty := .int) rfl rfl rfl hS
        | false =>
          have h := cd_f hb6 h
          refine py_ic (pc := 47) (len := 3) false rfl hb6 ?_
          refine py_its (pc := 50) (pc1 := 52) (lv1 := lv) (st1 := [.int (Int8.ofInt 20).toInt32]) 1 (fun _ _ _ _ => rfl) ?_
          have h := Option.some.inj h
          subst h
          exact py_ir (pc := 52) (len := 1) (ty := .int) rfl rfl rfl hS
      | false =>
        have h := cd_f hb5 h
        refine py_ic (pc := 15) (len := 3) false rfl hb5 ?_
        refine py_iln (pc := 18) (len := 1) (j := 1) rfl hk rfl ?_
        refine py_aln (pc := 19) (len := 1) (j := 0) rfl hk rfl ?_
        refine py_g1 13 (pc := 20) (len := 3) (cs := [12]) rfl rfl rfl List.mem_cons_self hS ?_
        refine py_iln (pc := 23) (len := 1) (j := 2) rfl hk rfl ?_
        obtain ⟨hi9, h⟩ := cd_n h
        refine py_ai (pc := 24) (len := 1) (cs := [13]) (t := 11) (n := 40) rfl rfl rfl hi9 List.mem_cons_self hS ?_
        obtain ⟨q10, hq11, h⟩ := bd_e h
        have hC12 := (fx_Text_behind hS hq11).1
        refine py_st (pc := 25) (mi := mi_Text_behind) (N := mm_Text_behind) rfl rfl rfl (Nat.le_of_ble_eq_true rfl) (Nat.le_of_ble_eq_true rfl) rfl rfl hC12 ?_
        show px_Y mm_Text_firstFault 28 lv [.int q10] hp _ _
        refine py_sin (pc := 28) (len := 1) (j := 1) rfl rfl hk (fun lv13 hk14 => ?_)
        have hk14 : lk lv13 [(1, .int q10), (0, .ref 12), (2, .int v2)] := hk14
        refine py_iln (pc := 29) (len := 1) (j := 1) rfl hk14 rfl ?_
        cases hb15 : px_cmp .ge q10 0 with
        | true =>
          have h := cd_t hb15 h
          refine py_if (pc := 30) (len := 3) true rfl hb15 ?_
          refine py_inc (pc := 35) (len := 3) (j := 2) (n := 1) rfl rfl hk14 rfl (fun lv16 hk17 => ?_)
          have hk17 : lk lv16 [(2, .int (v2 + Int32.ofInt 1)), (1, .int q10), (0, .ref 12)] := hk17
          refine py_its (pc := 38) (pc1 := 4) (lv1 := lv16) (st1 := []) 1 (fun _ _ _ _ => rfl) ?_
          exact ih q10 (v2 + Int32.ofInt 1) lv16 _ hS ⟨lk_find hk17 rfl, lk_find hk17 rfl, lk_find hk17 rfl, trivial⟩ h
        | false =>
          have h := cd_f hb15 h
          refine py_if (pc := 30) (len := 3) false rfl hb15 ?_
          refine py_iln (pc := 33) (len := 1) (j := 2) rfl hk14 rfl ?_
          have h := Option.some.inj h
          subst h
          exact py_ir (pc := 34) (len := 1) (ty := .int) rfl rfl rfl hS
noncomputable def fn_Text_firstFault  (hp : px_H) : Option (Int32) :=
  fn_Text_firstFault_L4 hp fu (Int32.ofInt 0) (Int32.ofInt 0)
theorem fx_Text_firstFault  {hp : px_H} {res : Int32} (hS : oS hp) (h : fn_Text_firstFault hp = some res) : px_C nm_T nm_P mi_Text_firstFault [.ref 12] hp (some (.int res)) hp ∧ oS hp := by
  unfold fn_Text_firstFault at h
  refine py_C (M := mm_Text_firstFault) rfl (Nat.le_of_ble_eq_true rfl) ?_
  show px_Y mm_Text_firstFault 0 [(0, .ref 12)] [] hp _ _
  refine py_its (pc := 0) (pc1 := 4) (lv1 := [(2, .int (Int32.ofInt 0)), (1, .int (Int32.ofInt 0)), (0, .ref 12)]) (st1 := []) 4 (fun _ _ _ _ => rfl) ?_
  exact fl_Text_firstFault_L4 fu (Int32.ofInt 0) (Int32.ofInt 0) [(2, .int (Int32.ofInt 0)), (1, .int (Int32.ofInt 0)), (0, .ref 12)] _ hS ⟨rfl, rfl, rfl, trivial⟩ h
/-! Rule_read -/
noncomputable def fb_Rule_read_L7 (v0 : Nat) (rc : Int32 → px_H → Option (px_H)) (v2 : Int32) (hp : px_H) : Option (px_H) :=
  bif px_cmp .ge v2 (gI hp 12 1) then
    some hp
  else
    bif px_cmp .ge (gI hp v0 3) (Int8.ofInt 7).toInt32 then
      some hp
    else
      bif px_inR v2 40 then
      bif px_cmp .lt (aI hp 13 v2.toNatClampNeg) (Int8.ofInt 49).toInt32 then
        bif px_cmp .eq (aI hp 13 v2.toNatClampNeg) (Int8.ofInt 98).toInt32 then
          bif px_inR (gI hp v0 3) 7 then
          sb (uI hp (gR hp v0 2) (gI hp v0 3).toNatClampNeg (aI hp 13 v2.toNatClampNeg)) fun h12 =>
          sb (wF h12 v0 3 (.int ((gI h12 v0 3) + (Int32.ofInt 1)))) fun h14 =>
          rc (v2 + Int32.ofInt 1) h14
          else none
        else
          bif px_cmp .eq (aI hp 13 v2.toNatClampNeg) (Int8.ofInt 116).toInt32 then
            bif px_inR (gI hp v0 3) 7 then
            sb (uI hp (gR hp v0 2) (gI hp v0 3).toNatClampNeg (aI hp 13 v2.toNatClampNeg)) fun h21 =>
            sb (wF h21 v0 3 (.int ((gI h21 v0 3) + (Int32.ofInt 1)))) fun h23 =>
            rc (v2 + Int32.ofInt 1) h23
            else none
          else
            bif px_cmp .ne (aI hp 13 v2.toNatClampNeg) (Int8.ofInt 108).toInt32 then
              bif px_cmp .eq (aI hp 13 v2.toNatClampNeg) (Int8.ofInt 59).toInt32 then
                rc (v2 + Int32.ofInt 1) hp
              else
                bif px_inR (gI hp v0 3) 7 then
                sb (uI hp (gR hp v0 0) (gI hp v0 3).toNatClampNeg (aI hp 13 v2.toNatClampNeg)) fun h33 =>
                rc (v2 + Int32.ofInt 1) h33
                else none
            else
              bif px_inR (gI hp v0 3) 7 then
              sb (uI hp (gR hp v0 2) (gI hp v0 3).toNatClampNeg (aI hp 13 v2.toNatClampNeg)) fun h39 =>
              sb (wF h39 v0 3 (.int ((gI h39 v0 3) + (Int32.ofInt 1)))) fun h41 =>
              rc (v2 + Int32.ofInt 1) h41
              else none
      else
        bif px_cmp .gt (aI hp 13 v2.toNatClampNeg) (Int8.ofInt 54).toInt32 then
          bif px_cmp .eq (aI hp 13 v2.toNatClampNeg) (Int8.ofInt 98).toInt32 then
            bif px_inR (gI hp v0 3) 7 then
            sb (uI hp (gR hp v0 2) (gI hp v0 3).toNatClampNeg (aI hp 13 v2.toNatClampNeg)) fun h49 =>
            sb (wF h49 v0 3 (.int ((gI h49 v0 3) + (Int32.ofInt 1)))) fun h51 =>
            rc (v2 + Int32.ofInt 1) h51
            else none
          else
            bif px_cmp .eq (aI hp 13 v2.toNatClampNeg) (Int8.ofInt 116).toInt32 then
              bif px_inR (gI hp v0 3) 7 then
              sb (uI hp (gR hp v0 2) (gI hp v0 3).toNatClampNeg (aI hp 13 v2.toNatClampNeg)) fun h58 =>
              sb (wF h58 v0 3 (.int ((gI h58 v0 3) + (Int32.ofInt 1)))) fun h60 =>
              rc (v2 + Int32.ofInt 1) h60
              else none
            else
              bif px_cmp .ne (aI hp 13 v2.toNatClampNeg) (Int8.ofInt 108).toInt32 then
                bif px_cmp .eq (aI hp 13 v2.toNatClampNeg) (Int8.ofInt 59).toInt32 then
                  rc (v2 + Int32.ofInt 1) hp
                else
                  bif px_inR (gI hp v0 3) 7 then
                  sb (uI hp (gR hp v0 0) (gI hp v0 3).toNatClampNeg (aI hp 13 v2.toNatClampNeg)) fun h70 =>
                  rc (v2 + Int32.ofInt 1) h70
                  else none
              else
                bif px_inR (gI hp v0 3) 7 then
                sb (uI hp (gR hp v0 2) (gI hp v0 3).toNatClampNeg (aI hp 13 v2.toNatClampNeg)) fun h76 =>
                sb (wF h76 v0 3 (.int ((gI h76 v0 3) + (Int32.ofInt 1)))) fun h78 =>
                rc (v2 + Int32.ofInt 1) h78
                else none
        else
          bif px_inR (gI hp v0 3) 7 then
          sb (uI hp (gR hp v0 1) (gI hp v0 3).toNatClampNeg ((aI hp 13 v2.toNatClampNeg) - (Int8.ofInt 48).toInt32)) fun h84 =>
          rc (v2 + Int32.ofInt 1) h84
          else none
      else none
noncomputable def fn_Rule_read_L7 (v0 : Nat) : Nat → Int32 → px_H → Option (px_H)
  | 0 => fun _ _ => none
  | n + 1 => fb_Rule_read_L7 v0 (fn_Rule_read_L7 v0 n)
theorem fl_Rule_read_L7 {v0 : Nat} (hm0_ : v0 ∈ [14, 22, 54, 58, 62]) : ∀ (n : Nat) (v2 : Int32) (hp : px_H) (lv : List (Nat × Value)) (res : px_H), oS hp → lk lv [(0, .ref v0), (1, .ref 12), (2, .int v2)] → fn_Rule_read_L7 v0 n v2 hp = some res → px_Y mm_Rule_read 7 lv [] hp none res := by
  intro n
  induction n with
  | zero =>
    intro v2 hp lv res hS hk h
    cases h
  | succ n ih =>
    intro v2 hp lv res hS hk h
    have h : fb_Rule_read_L7 v0 (fn_Rule_read_L7 v0 n) v2 hp = some res := h
    unfold fb_Rule_read_L7 at h
    refine py_iln (pc := 7) (len := 1) (j := 2) rfl hk rfl ?_
    refine py_aln (pc := 8) (len := 1) (j := 1) rfl hk rfl ?_
    refine py_gI (pc := 9) (len := 3) (cs := [12]) rfl rfl rfl List.mem_cons_self hS ?_
    cases hb3 : px_cmp .ge v2 (gI hp 12 1) with
    | true =>
      have h := cd_t hb3 h
      refine py_ic (pc := 12) (len := 3) true rfl hb3 ?_
      have h := Option.some.inj h
      subst h
      exact py_rt (pc := 122) (len := 1) rfl rfl hS
    | false =>
      have h := cd_f hb3 h
      refine py_ic (pc := 12) (len := 3) false rfl hb3 ?_
      refine py_aln (pc := 15) (len := 1) (j := 0) rfl hk rfl ?_
      refine py_gI (pc := 16) (len := 3) (cs := [14, 22, 54, 58, 62]) rfl rfl rfl hm0_ hS ?_
      refine py_its (pc := 19) (pc1 := 21) (lv1 := lv) (st1 := [.int (Int8.ofInt 7).toInt32, .int (gI hp v0 3)]) 1 (fun _ _ _ _ => rfl) ?_
      cases hb4 : px_cmp .ge (gI hp v0 3) (Int8.ofInt 7).toInt32 with
      | true =>
        have h := cd_t hb4 h
        refine py_ic (pc := 21) (len := 3) true rfl hb4 ?_
        have h := Option.some.inj h
        subst h
        exact py_rt (pc := 122) (len := 1) rfl rfl hS
      | false =>
        have h := cd_f hb4 h
        refine py_ic (pc := 21) (len := 3) false rfl hb4 ?_
        refine py_aln (pc := 24) (len := 1) (j := 1) rfl hk rfl ?_
        refine py_g1 13 (pc := 25) (len := 3) (cs := [12]) rfl rfl rfl List.mem_cons_self hS ?_
        refine py_iln (pc := 28) (len := 1) (j := 2) rfl hk rfl ?_
        obtain ⟨hi5, h⟩ := cd_n h
        refine py_ai (pc := 29) (len := 1) (cs := [13]) (t := 11) (n := 40) rfl rfl rfl hi5 List.mem_cons_self hS ?_
        refine py_sin (pc := 30) (len := 1) (j := 3) rfl rfl hk (fun lv6 hk7 => ?_)
        have hk7 : lk lv6 [(3, .int (aI hp 13 v2.toNatClampNeg)), (0, .ref v0), (1, .ref 12), (2, .int v2)] := hk7
        refine py_iln (pc := 31) (len := 1) (j := 3) rfl hk7 rfl ?_
        refine py_its (pc := 32) (pc1 := 34) (lv1 := lv6) (st1 := [.int (Int8.ofInt 49).toInt32, .int (aI hp 13 v2.toNatClampNeg)]) 1 (fun _ _ _ _ => rfl) ?_
        cases hb8 : px_cmp .lt (aI hp 13 v2.toNatClampNeg) (Int8.ofInt 49).toInt32 with
        | true =>
          have h := cd_t hb8 h
          refine py_ic (pc := 34) (len := 3) true rfl hb8 ?_
          refine py_iln (pc := 59) (len := 1) (j := 3) rfl hk7 rfl ?_
          refine py_its (pc := 60) (pc1 := 62) (lv1 := lv6) (st1 := [.int (Int8.ofInt 98).toInt32, .int (aI hp 13 v2.toNatClampNeg)]) 1 (fun _ _ _ _ => rfl) ?_
          cases hb9 : px_cmp .eq (aI hp 13 v2.toNatClampNeg) (Int8.ofInt 98).toInt32 with
          | true =>
            have h := cd_t hb9 h
            refine py_ic (pc := 62) (len := 3) true rfl hb9 ?_
            refine py_aln (pc := 77) (len := 1) (j := 0) rfl hk7 rfl ?_
            refine py_gR [17, 25, 57, 61, 65] (pc := 78) (len := 3) (cs := [14, 22, 54, 58, 62]) rfl rfl rfl hm0_ hS (fun hm10 => ?_)
            refine py_aln (pc := 81) (len := 1) (j := 0) rfl hk7 rfl ?_
            refine py_gI (pc := 82) (len := 3) (cs := [14, 22, 54, 58, 62]) rfl rfl rfl hm0_ hS ?_
            refine py_iln (pc := 85) (len := 1) (j := 3) rfl hk7 rfl ?_
            obtain ⟨hi11, h⟩ := cd_n h
            have h := sb_e h
            refine py_si (pc := 86) (len := 1) (cs := [17, 25, 57, 61, 65]) (t := 2) (n := 7) rfl rfl rfl hi11 hm10 hS ?_
            have hS13 : oS (uI hp (gR hp v0 2) (gI hp v0 3).toNatClampNeg (aI hp 13 v2.toNatClampNeg)) := oS_uI (cs := [17, 25, 57, 61, 65]) (t := 2) (n := 7) rfl hm10 hS
            generalize (uI hp (gR hp v0 2) (gI hp v0 3).toNatClampNeg (aI hp 13 v2.toNatClampNeg)) = h12 at h hS13 ⊢
            refine py_aln (pc := 87) (len := 1) (j := 0) rfl hk7 rfl ?_
            refine py_its (pc := 88) (pc1 := 89) (lv1 := lv6) (st1 := [.ref v0, .ref v0]) 1 (fun _ _ _ _ => rfl) ?_
            refine py_gI (pc := 89) (len := 3) (cs := [14, 22, 54, 58, 62]) rfl rfl rfl hm0_ hS13 ?_
            refine py_its (pc := 92) (pc1 := 94) (lv1 := lv6) (st1 := [.int ((gI h12 v0 3) + (Int32.ofInt 1)), .ref v0]) 2 (fun _ _ _ _ => rfl) ?_
            have h := sb_e h
            refine py_pI (pc := 94) (len := 3) (cs := [14, 22, 54, 58, 62]) rfl rfl rfl hm0_ hS13 rfl rfl rfl rfl ?_
            have hS15 : oS (wF h12 v0 3 (.int ((gI h12 v0 3) + (Int32.ofInt 1)))) := oS_wI (cs := [14, 22, 54, 58, 62]) (ci := 3) rfl hm0_ hS13
            generalize (wF h12 v0 3 (.int ((gI h12 v0 3) + (Int32.ofInt 1)))) = h14 at h hS15 ⊢
            refine py_its (pc := 97) (pc1 := 116) (lv1 := lv6) (st1 := []) 1 (fun _ _ _ _ => rfl) ?_
            refine py_inc (pc := 116) (len := 3) (j := 2) (n := 1) rfl rfl hk7 rfl (fun lv16 hk17 => ?_)
            have hk17 : lk lv16 [(2, .int (v2 + Int32.ofInt 1)), (3, .int (aI hp 13 v2.toNatClampNeg)), (0, .ref v0), (1, .ref 12)] := hk17
            refine py_its (pc := 119) (pc1 := 7) (lv1 := lv16) (st1 := []) 1 (fun _ _ _ _ => rfl) ?_
            exact ih (v2 + Int32.ofInt 1) h14 lv16 _ hS15 ⟨lk_find hk17 rfl, lk_find hk17 rfl, lk_find hk17 rfl, trivial⟩ h
          | false =>
            have h := cd_f hb9 h
            refine py_ic (pc := 62) (len := 3) false rfl hb9 ?_
            refine py_iln (pc := 65) (len := 1) (j := 3) rfl hk7 rfl ?_
            refine py_its (pc := 66) (pc1 := 68) (lv1 := lv6) (st1 := [.int (Int8.ofInt 116).toInt32, .int (aI hp 13 v2.toNatClampNeg)]) 1 (fun _ _ _ _ => rfl) ?_
            cases hb18 : px_cmp .eq (aI hp 13 v2.toNatClampNeg) (Int8.ofInt 116).toInt32 with
            | true =>
              have h := cd_t hb18 h
              refine py_ic (pc := 68) (len := 3) true rfl hb18 ?_
              refine py_aln (pc := 77) (len := 1) (j := 0) rfl hk7 rfl ?_
              refine py_gR [17, 25, 57, 61, 65] (pc := 78) (len := 3) (cs := [14, 22, 54, 58, 62]) rfl rfl rfl hm0_ hS (fun hm19 => ?_)
              refine py_aln (pc := 81) (len := 1) (j := 0) rfl hk7 rfl ?_
              refine py_gI (pc := 82) (len := 3) (cs := [14, 22, 54, 58, 62]) rfl rfl rfl hm0_ hS ?_
              refine py_iln (pc := 85) (len := 1) (j := 3) rfl hk7 rfl ?_
              obtain ⟨hi20, h⟩ := cd_n h
              have h := sb_e h
              refine py_si (pc := 86) (len := 1) (cs := [17, 25, 57, 61, 65]) (t := 2) (n := 7) rfl rfl rfl hi20 hm19 hS ?_
              have hS22 : oS (uI hp (gR hp v0 2) (gI hp v0 3).toNatClampNeg (aI hp 13 v2.toNatClampNeg)) := oS_uI (cs := [17, 25, 57, 61, 65]) (t := 2) (n := 7) rfl hm19 hS
              generalize (uI hp (gR hp v0 2) (gI hp v0 3).toNatClampNeg (aI hp 13 v2.toNatClampNeg)) = h21 at h hS22 ⊢
              refine py_aln (pc := 87) (len := 1) (j := 0) rfl hk7 rfl ?_
              refine py_its (pc := 88) (pc1 := 89) (lv1 := lv6) (st1 := [.ref v0, .ref v0]) 1 (fun _ _ _ _ => rfl) ?_
              refine py_gI (pc := 89) (len := 3) (cs := [14, 22, 54, 58, 62]) rfl rfl rfl hm0_ hS22 ?_
              refine py_its (pc := 92) (pc1 := 94) (lv1 := lv6) (st1 := [.int ((gI h21 v0 3) + (Int32.ofInt 1)), .ref v0]) 2 (fun _ _ _ _ => rfl) ?_
              have h := sb_e h
              refine py_pI (pc := 94) (len := 3) (cs := [14, 22, 54, 58, 62]) rfl rfl rfl hm0_ hS22 rfl rfl rfl rfl ?_
              have hS24 : oS (wF h21 v0 3 (.int ((gI h21 v0 3) + (Int32.ofInt 1)))) := oS_wI (cs := [14, 22, 54, 58, 62]) (ci := 3) rfl hm0_ hS22
              generalize (wF h21 v0 3 (.int ((gI h21 v0 3) + (Int32.ofInt 1)))) = h23 at h hS24 ⊢
              refine py_its (pc := 97) (pc1 := 116) (lv1 := lv6) (st1 := []) 1 (fun _ _ _ _ => rfl) ?_
              refine py_inc (pc := 116) (len := 3) (j := 2) (n := 1) rfl rfl hk7 rfl (fun lv25 hk26 => ?_)
              have hk26 : lk lv25 [(2, .int (v2 + Int32.ofInt 1)), (3, .int (aI hp 13 v2.toNatClampNeg)), (0, .ref v0), (1, .ref 12)] := hk26
              refine py_its (pc := 119) (pc1 := 7) (lv1 := lv25) (st1 := []) 1 (fun _ _ _ _ => rfl) ?_
              exact ih (v2 + Int32.ofInt 1) h23 lv25 _ hS24 ⟨lk_find hk26 rfl, lk_find hk26 rfl, lk_find hk26 rfl, trivial⟩ h
            | false =>
              have h := cd_f hb18 h
              refine py_ic (pc := 68) (len := 3) false rfl hb18 ?_
              refine py_iln (pc := 71) (len := 1) (j := 3) rfl hk7 rfl ?_
              refine py_its (pc := 72) (pc1 := 74) (lv1 := lv6) (st1 := [.int (Int8.ofInt 108).toInt32, .int (aI hp 13 v2.toNatClampNeg)]) 1 (fun _ _ _ _ => rfl) ?_
              cases hb27 : px_cmp .ne (aI hp 13 v2.toNatClampNeg) (Int8.ofInt 108).toInt32 with
              | true =>
                have h := cd_t hb27 h
                refine py_ic (pc := 74) (len := 3) true rfl hb27 ?_
                refine py_iln (pc := 100) (len := 1) (j := 3) rfl hk7 rfl ?_
                refine py_its (pc := 101) (pc1 := 103) (lv1 := lv6) (st1 := [.int (Int8.ofInt 59).toInt32, .int (aI hp 13 v2.toNatClampNeg)]) 1 (fun _ _ _ _ => rfl) ?_
                cases hb28 : px_cmp .eq (aI hp 13 v2.toNatClampNeg) (Int8.ofInt 59).toInt32 with
                | true =>
                  have h := cd_t hb28 h
                  refine py_ic (pc := 103) (len := 3) true rfl hb28 ?_
                  refine py_inc (pc := 116) (len := 3) (j := 2) (n := 1) rfl rfl hk7 rfl (fun lv29 hk30 => ?_)
                  have hk30 : lk lv29 [(2, .int (v2 + Int32.ofInt 1)), (3, .int (aI hp 13 v2.toNatClampNeg)), (0, .ref v0), (1, .ref 12)] := hk30
                  refine py_its (pc := 119) (pc1 := 7) (lv1 := lv29) (st1 := []) 1 (fun _ _ _ _ => rfl) ?_
                  exact ih (v2 + Int32.ofInt 1) hp lv29 _ hS ⟨lk_find hk30 rfl, lk_find hk30 rfl, lk_find hk30 rfl, trivial⟩ h
                | false =>
                  have h := cd_f hb28 h
                  refine py_ic (pc := 103) (len := 3) false rfl hb28 ?_
                  refine py_aln (pc := 106) (len := 1) (j := 0) rfl hk7 rfl ?_
                  refine py_gR [15, 23, 55, 59, 63] (pc := 107) (len := 3) (cs := [14, 22, 54, 58, 62]) rfl rfl rfl hm0_ hS (fun hm31 => ?_)
                  refine py_aln (pc := 110) (len := 1) (j := 0) rfl hk7 rfl ?_
                  refine py_gI (pc := 111) (len := 3) (cs := [14, 22, 54, 58, 62]) rfl rfl rfl hm0_ hS ?_
                  refine py_iln (pc := 114) (len := 1) (j := 3) rfl hk7 rfl ?_
                  obtain ⟨hi32, h⟩ := cd_n h
                  have h := sb_e h
                  refine py_si (pc := 115) (len := 1) (cs := [15, 23, 55, 59, 63]) (t := 0) (n := 7) rfl rfl rfl hi32 hm31 hS ?_
                  have hS34 : oS (uI hp (gR hp v0 0) (gI hp v0 3).toNatClampNeg (aI hp 13 v2.toNatClampNeg)) := oS_uI (cs := [15, 23, 55, 59, 63]) (t := 0) (n := 7) rfl hm31 hS
                  generalize (uI hp (gR hp v0 0) (gI hp v0 3).toNatClampNeg (aI hp 13 v2.toNatClampNeg)) = h33 at h hS34 ⊢
                  refine py_inc (pc := 116) (len := 3) (j := 2) (n := 1) rfl rfl hk7 rfl (fun lv35 hk36 => ?_)
                  have hk36 : lk lv35 [(2, .int (v2 + Int32.ofInt 1)), (3, .int (aI hp 13 v2.toNatClampNeg)), (0, .ref v0), (1, .ref 12)] := hk36
                  refine py_its (pc := 119) (pc1 := 7) (lv1 := lv35) (st1 := []) 1 (fun _ _ _ _ => rfl) ?_
                  exact ih (v2 + Int32.ofInt 1) h33 lv35 _ hS34 ⟨lk_find hk36 rfl, lk_find hk36 rfl, lk_find hk36 rfl, trivial⟩ h
              | false =>
                have h := cd_f hb27 h
                refine py_ic (pc := 74) (len := 3) false rfl hb27 ?_
                refine py_aln (pc := 77) (len := 1) (j := 0) rfl hk7 rfl ?_
                refine py_gR [17, 25, 57, 61, 65] (pc := 78) (len := 3) (cs := [14, 22, 54, 58, 62]) rfl rfl rfl hm0_ hS (fun hm37 => ?_)
                refine py_aln (pc := 81) (len := 1) (j := 0) rfl hk7 rfl ?_
                refine py_gI (pc := 82) (len := 3) (cs := [14, 22, 54, 58, 62]) rfl rfl rfl hm0_ hS ?_
                refine py_iln (pc := 85) (len := 1) (j := 3) rfl hk7 rfl ?_
                obtain ⟨hi38, h⟩ := cd_n h
                have h := sb_e h
                refine py_si (pc := 86) (len := 1) (cs := [17, 25, 57, 61, 65]) (t := 2) (n := 7) rfl rfl rfl hi38 hm37 hS ?_
                have hS40 : oS (uI hp (gR hp v0 2) (gI hp v0 3).toNatClampNeg (aI hp 13 v2.toNatClampNeg)) := oS_uI (cs := [17, 25, 57, 61, 65]) (t := 2) (n := 7) rfl hm37 hS
                generalize (uI hp (gR hp v0 2) (gI hp v0 3).toNatClampNeg (aI hp 13 v2.toNatClampNeg)) = h39 at h hS40 ⊢
                refine py_aln (pc := 87) (len := 1) (j := 0) rfl hk7 rfl ?_
                refine py_its (pc := 88) (pc1 := 89) (lv1 := lv6) (st1 := [.ref v0, .ref v0]) 1 (fun _ _ _ _ => rfl) ?_
                refine py_gI (pc := 89) (len := 3) (cs := [14, 22, 54, 58, 62]) rfl rfl rfl hm0_ hS40 ?_
                refine py_its (pc := 92) (pc1 := 94) (lv1 := lv6) (st1 := [.int ((gI h39 v0 3) + (Int32.ofInt 1)), .ref v0]) 2 (fun _ _ _ _ => rfl) ?_
                have h := sb_e h
                refine py_pI (pc := 94) (len := 3) (cs := [14, 22, 54, 58, 62]) rfl rfl rfl hm0_ hS40 rfl rfl rfl rfl ?_
                have hS42 : oS (wF h39 v0 3 (.int ((gI h39 v0 3) + (Int32.ofInt 1)))) := oS_wI (cs := [14, 22, 54, 58, 62]) (ci := 3) rfl hm0_ hS40
                generalize (wF h39 v0 3 (.int ((gI h39 v0 3) + (Int32.ofInt 1)))) = h41 at h hS42 ⊢
                refine py_its (pc := 97) (pc1 := 116) (lv1 := lv6) (st1 := []) 1 (fun _ _ _ _ => rfl) ?_
                refine py_inc (pc := 116) (len := 3) (j := 2) (n := 1) rfl rfl hk7 rfl (fun lv43 hk44 => ?_)
                have hk44 : lk lv43 [(2, .int (v2 + Int32.ofInt 1)), (3, .int (aI hp 13 v2.toNatClampNeg)), (0, .ref v0), (1, .ref 12)] := hk44
                refine py_its (pc := 119) (pc1 := 7) (lv1 := lv43) (st1 := []) 1 (fun _ _ _ _ => rfl) ?_
                exact ih (v2 + Int32.ofInt 1) h41 lv43 _ hS42 ⟨lk_find hk44 rfl, lk_find hk44 rfl, lk_find hk44 rfl, trivial⟩ h
        | false =>
          have h := cd_f hb8 h
          refine py_ic (pc := 34) (len := 3) false rfl hb8 ?_
          refine py_iln (pc := 37) (len := 1) (j := 3) rfl hk7 rfl ?_
          refine py_its (pc := 38) (pc1 := 40) (lv1 := lv6) (st1 := [.int (Int8.ofInt 54).toInt32, .int (aI hp 13 v2.toNatClampNeg)]) 1 (fun _ _ _ _ => rfl) ?_
          cases hb45 : px_cmp .gt (aI hp 13 v2.toNatClampNeg) (Int8.ofInt 54).toInt32 with
          | true =>
            have h := cd_t hb45 h
            refine py_ic (pc := 40) (len := 3) true rfl hb45 ?_
            refine py_iln (pc := 59) (len := 1) (j := 3) rfl hk7 rfl ?_
            refine py_its (pc := 60) (pc1 := 62) (lv1 := lv6) (st1 := [.int (Int8.ofInt 98).toInt32, .int (aI hp 13 v2.toNatClampNeg)]) 1 (fun _ _ _ _ => rfl) ?_
            cases hb46 : px_cmp .eq (aI hp 13 v2.toNatClampNeg) (Int8.ofInt 98).toInt32 with
            | true =>
              have h := cd_t hb46 h
              refine py_ic (pc := 62) (len := 3) true rfl hb46 ?_
              refine py_aln (pc := 77) (len := 1) (j := 0) rfl hk7 rfl ?_
              refine py_gR [17, 25, 57, 61, 65] (pc := 78) (len := 3) (cs := [14, 22, 54, 58, 62]) rfl rfl rfl hm0_ hS (fun hm47 => ?_)
              refine py_aln (pc := 81) (len := 1) (j := 0) rfl hk7 rfl ?_
              refine py_gI (pc := 82) (len := 3) (cs := [14, 22, 54, 58, 62]) rfl rfl rfl hm0_ hS ?_
              refine py_iln (pc := 85) (len := 1) (j := 3) rfl hk7 rfl ?_
              obtain ⟨hi48, h⟩ := cd_n h
              have h := sb_e h
              refine py_si (pc := 86) (len := 1) (cs := [17, 25, 57, 61, 65]) (t := 2) (n := 7) rfl rfl rfl hi48 hm47 hS ?_
              have hS50 : oS (uI hp (gR hp v0 2) (gI hp v0 3).toNatClampNeg (aI hp 13 v2.toNatClampNeg)) := oS_uI (cs := [17, 25, 57, 61, 65]) (t := 2) (n := 7) rfl hm47 hS
              generalize (uI hp (gR hp v0 2) (gI hp v0 3).toNatClampNeg (aI hp 13 v2.toNatClampNeg)) = h49 at h hS50 ⊢
              refine py_aln (pc := 87) (len := 1) (j := 0) rfl hk7 rfl ?_
              refine py_its (pc := 88) (pc1 := 89) (lv1 := lv6) (st1 := [.ref v0, .ref v0]) 1 (fun _ _ _ _ => rfl) ?_
              refine py_gI (pc := 89) (len := 3) (cs := [14, 22, 54, 58, 62]) rfl rfl rfl hm0_ hS50 ?_
              refine py_its (pc := 92) (pc1 := 94) (lv1 := lv6) (st1 := [.int ((gI h49 v0 3) + (Int32.ofInt 1)), .ref v0]) 2 (fun _ _ _ _ => rfl) ?_
              have h := sb_e h
              refine py_pI (pc := 94) (len := 3) (cs := [14, 22, 54, 58, 62]) rfl rfl rfl hm0_ hS50 rfl rfl rfl rfl ?_
              have hS52 : oS (wF h49 v0 3 (.int ((gI h49 v0 3) + (Int32.ofInt 1)))) := oS_wI (cs := [14, 22, 54, 58, 62]) (ci := 3) rfl hm0_ hS50
              generalize (wF h49 v0 3 (.int ((gI h49 v0 3) + (Int32.ofInt 1)))) = h51 at h hS52 ⊢
              refine py_its (pc := 97) (pc1 := 116) (lv1 := lv6) (st1 := []) 1 (fun _ _ _ _ => rfl) ?_
              refine py_inc (pc := 116) (len := 3) (j := 2) (n := 1) rfl rfl hk7 rfl (fun lv53 hk54 => ?_)
              have hk54 : lk lv53 [(2, .int (v2 + Int32.ofInt 1)), (3, .int (aI hp 13 v2.toNatClampNeg)), (0, .ref v0), (1, .ref 12)] := hk54
              refine py_its (pc := 119) (pc1 := 7) (lv1 := lv53) (st1 := []) 1 (fun _ _ _ _ => rfl) ?_
              exact ih (v2 + Int32.ofInt 1) h51 lv53 _ hS52 ⟨lk_find hk54 rfl, lk_find hk54 rfl, lk_find hk54 rfl, trivial⟩ h
            | false =>
              have h := cd_f hb46 h
              refine py_ic (pc := 62) (len := 3) false rfl hb46 ?_
              refine py_iln (pc := 65) (len := 1) (j := 3) rfl hk7 rfl ?_
              refine py_its (pc := 66) (pc1 := 68) (lv1 := lv6) (st1 := [.int (Int8.ofInt 116).toInt32, .int (aI hp 13 v2.toNatClampNeg)]) 1 (fun _ _ _ _ => rfl) ?_
              cases hb55 : px_cmp .eq (aI hp 13 v2.toNatClampNeg) (Int8.ofInt 116).toInt32 with
              | true =>
                have h := cd_t hb55 h
                refine py_ic (pc := 68) (len := 3) true rfl hb55 ?_
                refine py_aln (pc := 77) (len := 1) (j := 0) rfl hk7 rfl ?_
                refine py_gR [17, 25, 57, 61, 65] (pc := 78) (len := 3) (cs := [14, 22, 54, 58, 62]) rfl rfl rfl hm0_ hS (fun hm56 => ?_)
                refine py_aln (pc := 81) (len := 1) (j := 0) rfl hk7 rfl ?_
                refine py_gI (pc := 82) (len := 3) (cs := [14, 22, 54, 58, 62]) rfl rfl rfl hm0_ hS ?_
                refine py_iln (pc := 85) (len := 1) (j := 3) rfl hk7 rfl ?_
                obtain ⟨hi57, h⟩ := cd_n h
                have h := sb_e h
                refine py_si (pc := 86) (len := 1) (cs := [17, 25, 57, 61, 65]) (t := 2) (n := 7) rfl rfl rfl hi57 hm56 hS ?_
                have hS59 : oS (uI hp (gR hp v0 2) (gI hp v0 3).toNatClampNeg (aI hp 13 v2.toNatClampNeg)) := oS_uI (cs := [17, 25, 57, 61, 65]) (t := 2) (n := 7) rfl hm56 hS
                generalize (uI hp (gR hp v0 2) (gI hp v0 3).toNatClampNeg (aI hp 13 v2.toNatClampNeg)) = h58 at h hS59 ⊢
                refine py_aln (pc := 87) (len := 1) (j := 0) rfl hk7 rfl ?_
                refine py_its (pc := 88) (pc1 := 89) (lv1 := lv6) (st1 := [.ref v0, .ref v0]) 1 (fun _ _ _ _ => rfl) ?_
                refine py_gI (pc := 89) (len := 3) (cs := [14, 22, 54, 58, 62]) rfl rfl rfl hm0_ hS59 ?_
                refine py_its (pc := 92) (pc1 := 94) (lv1 := lv6) (st1 := [.int ((gI h58 v0 3) + (Int32.ofInt 1)), .ref v0]) 2 (fun _ _ _ _ => rfl) ?_
                have h := sb_e h
                refine py_pI (pc := 94) (len := 3) (cs := [14, 22, 54, 58, 62]) rfl rfl rfl hm0_ hS59 rfl rfl rfl rfl ?_
                have hS61 : oS (wF h58 v0 3 (.int ((gI h58 v0 3) + (Int32.ofInt 1)))) := oS_wI (cs := [14, 22, 54, 58, 62]) (ci := 3) rfl hm0_ hS59
                generalize (wF h58 v0 3 (.int ((gI h58 v0 3) + (Int32.ofInt 1)))) = h60 at h hS61 ⊢
                refine py_its (pc := 97) (pc1 := 116) (lv1 := lv6) (st1 := []) 1 (fun _ _ _ _ => rfl) ?_
                refine py_inc (pc := 116) (len := 3) (j := 2) (n := 1) rfl rfl hk7 rfl (fun lv62 hk63 => ?_)
                have hk63 : lk lv62 [(2, .int (v2 + Int32.ofInt 1)), (3, .int (aI hp 13 v2.toNatClampNeg)), (0, .ref v0), (1, .ref 12)] := hk63
                refine py_its (pc := 119) (pc1 := 7) (lv1 := lv62) (st1 := []) 1 (fun _ _ _ _ => rfl) ?_
                exact ih (v2 + Int32.ofInt 1) h60 lv62 _ hS61 ⟨lk_find hk63 rfl, lk_find hk63 rfl, lk_find hk63 rfl, trivial⟩ h
              | false =>
                have h := cd_f hb55 h
                refine py_ic (pc := 68) (len := 3) false rfl hb55 ?_
                refine py_iln (pc := 71) (len := 1) (j := 3) rfl hk7 rfl ?_
                refine py_its (pc := 72) (pc1 := 74) (lv1 := lv6) (st1 := [.int (Int8.ofInt 108).toInt32, .int (aI hp 13 v2.toNatClampNeg)]) 1 (fun _ _ _ _ => rfl) ?_
                cases hb64 : px_cmp .ne (aI hp 13 v2.toNatClampNeg) (Int8.ofInt 108).toInt32 with
                | true =>
                  have h := cd_t hb64 h
                  refine py_ic (pc := 74) (len := 3) true rfl hb64 ?_
                  refine py_iln (pc := 100) (len := 1) (j := 3) rfl hk7 rfl ?_
                  refine py_its (pc := 101) (pc1 := 103) (lv1 := lv6) (st1 := [.int (Int8.ofInt 59).toInt32, .int (aI hp 13 v2.toNatClampNeg)]) 1 (fun _ _ _ _ => rfl) ?_
                  cases hb65 : px_cmp .eq (aI hp 13 v2.toNatClampNeg) (Int8.ofInt 59).toInt32 with
                  | true =>
                    have h := cd_t hb65 h
                    refine py_ic (pc := 103) (len := 3) true rfl hb65 ?_
                    refine py_inc (pc := 116) (len := 3) (j := 2) (n := 1) rfl rfl hk7 rfl (fun lv66 hk67 => ?_)
                    have hk67 : lk lv66 [(2, .int (v2 + Int32.ofInt 1)), (3, .int (aI hp 13 v2.toNatClampNeg)), (0, .ref v0), (1, .ref 12)] := hk67
                    refine py_its (pc := 119) (pc1 := 7) (lv1 := lv66) (st1 := []) 1 (fun _ _ _ _ => rfl) ?_
                    exact ih (v2 + Int32.ofInt 1) hp lv66 _ hS ⟨lk_find hk67 rfl, lk_find hk67 rfl, lk_find hk67 rfl, trivial⟩ h
                  | false =>
                    have h := cd_f hb65 h
                    refine py_ic (pc := 103) (len := 3) false rfl hb65 ?_
                    refine py_aln (pc := 106) (len := 1) (j := 0) rfl hk7 rfl ?_
                    refine py_gR [15, 23, 55, 59, 63] (pc := 107) (len := 3) (cs := [14, 22, 54, 58, 62]) rfl rfl rfl hm0_ hS (fun hm68 => ?_)
                    refine py_aln (pc := 110) (len := 1) (j := 0) rfl hk7 rfl ?_
                    refine py_gI (pc := 111) (len := 3) (cs := [14, 22, 54, 58, 62]) rfl rfl rfl hm0_ hS ?_
                    refine py_iln (pc := 114) (len := 1) (j := 3) rfl hk7 rfl ?_
                    obtain ⟨hi69, h⟩ := cd_n h
                    have h := sb_e h
                    refine py_si (pc := 115) (len := 1) (cs := [15, 23, 55, 59, 63]) (t := 0) (n := 7) rfl rfl rfl hi69 hm68 hS ?_
                    have hS71 : oS (uI hp (gR hp v0 0) (gI hp v0 3).toNatClampNeg (aI hp 13 v2.toNatClampNeg)) := oS_uI (cs := [15, 23, 55, 59, 63]) (t := 0) (n := 7) rfl hm68 hS
                    generalize (uI hp (gR hp v0 0) (gI hp v0 3).toNatClampNeg (aI hp 13 v2.toNatClampNeg)) = h70 at h hS71 ⊢
                    refine py_inc (pc := 116) (len := 3) (j := 2) (n := 1) rfl rfl hk7 rfl (fun lv72 hk73 => ?_)
                    have hk73 : lk lv72 [(2, .int (v2 + Int32.ofInt 1)), (3, .int (aI hp 13 v2.toNatClampNeg)), (0, .ref v0), (1, .ref 12)] := hk73
                    refine py_its (pc := 119) (pc1 := 7) (lv1 := lv72) (st1 := []) 1 (fun _ _ _ _ => rfl) ?_
                    exact ih (v2 + Int32.ofInt 1) h70 lv72 _ hS71 ⟨lk_find hk73 rfl, lk_find hk73 rfl, lk_find hk73 rfl, trivial⟩ h
                | false =>
                  have h := cd_f hb64 h
                  refine py_ic (pc := 74) (len := 3) false rfl hb64 ?_
                  refine py_aln (pc := 77) (len := 1) (j := 0) rfl hk7 rfl ?_
                  refine py_gR [17, 25, 57, 61, 65] (pc := 78) (len := 3) (cs := [14, 22, 54, 58, 62]) rfl rfl rfl hm0_ hS (fun hm74 => ?_)
                  refine py_aln (pc := 81) (len := 1) (j := 0) rfl hk7 rfl ?_
                  refine py_gI (pc := 82) (len := 3) (cs := [14, 22, 54, 58, 62]) rfl rfl rfl hm0_ hS ?_
                  refine py_iln (pc := 85) (len := 1) (j := 3) rfl hk7 rfl ?_
                  obtain ⟨hi75, h⟩ := cd_n h
                  have h := sb_e h
                  refine py_si (pc := 86) (len := 1) (cs := [17, 25, 57, 61, 65]) (t := 2) (n := 7) rfl rfl rfl hi75 hm74 hS ?_
                  have hS77 : oS (uI hp (gR hp v0 2) (gI hp v0 3).toNatClampNeg (aI hp 13 v2.toNatClampNeg)) := oS_uI (cs := [17, 25, 57, 61, 65]) (t := 2) (n := 7) rfl hm74 hS
                  generalize (uI hp (gR hp v0 2) (gI hp v0 3).toNatClampNeg (aI hp 13 v2.toNatClampNeg)) = h76 at h hS77 ⊢
                  refine py_aln (pc := 87) (len := 1) (j := 0) rfl hk7 rfl ?_
                  refine py_its (pc := 88) (pc1 := 89) (lv1 := lv6) (st1 := [.ref v0, .ref v0]) 1 (fun _ _ _ _ => rfl) ?_
                  refine py_gI (pc := 89) (len := 3) (cs := [14, 22, 54, 58, 62]) rfl rfl rfl hm0_ hS77 ?_
                  refine py_its (pc := 92) (pc1 := 94) (lv1 := lv6) (st1 := [.int ((gI h76 v0 3) + (Int32.ofInt 1)), .ref v0]) 2 (fun _ _ _ _ => rfl) ?_
                  have h := sb_e h
                  refine py_pI (pc := 94) (len := 3) (cs := [14, 22, 54, 58, 62]) rfl rfl rfl hm0_ hS77 rfl rfl rfl rfl ?_
                  have hS79 : oS (wF h76 v0 3 (.int ((gI h76 v0 3) + (Int32.ofInt 1)))) := oS_wI (cs := [14, 22, 54, 58, 62]) (ci := 3) rfl hm0_ hS77
                  generalize (wF h76 v0 3 (.int ((gI h76 v0 3) + (Int32.ofInt 1)))) = h78 at h hS79 ⊢
                  refine py_its (pc := 97) (pc1 := 116) (lv1 := lv6) (st1 := []) 1 (fun _ _ _ _ => rfl) ?_
                  refine py_inc (pc := 116) (len := 3) (j := 2) (n := 1) rfl rfl hk7 rfl (fun lv80 hk81 => ?_)
                  have hk81 : lk lv80 [(2, .int (v2 + Int32.ofInt 1)), (3, .int (aI hp 13 v2.toNatClampNeg)), (0, .ref v0), (1, .ref 12)] := hk81
                  refine py_its (pc := 119) (pc1 := 7) (lv1 := lv80) (st1 := []) 1 (fun _ _ _ _ => rfl) ?_
                  exact ih (v2 + Int32.ofInt 1) h78 lv80 _ hS79 ⟨lk_find hk81 rfl, lk_find hk81 rfl, lk_find hk81 rfl, trivial⟩ h
          | false =>
            have h := cd_f hb45 h
            refine py_ic (pc := 40) (len := 3) false rfl hb45 ?_
            refine py_aln (pc := 43) (len := 1) (j := 0) rfl hk7 rfl ?_
            refine py_gR [16, 24, 56, 60, 64] (pc := 44) (len := 3) (cs := [14, 22, 54, 58, 62]) rfl rfl rfl hm0_ hS (fun hm82 => ?_)
            refine py_aln (pc := 47) (len := 1) (j := 0) rfl hk7 rfl ?_
            refine py_gI (pc := 48) (len := 3) (cs := [14, 22, 54, 58, 62]) rfl rfl rfl hm0_ hS ?_
            refine py_iln (pc := 51) (len := 1) (j := 3) rfl hk7 rfl ?_
            refine py_its (pc := 52) (pc1 := 55) (lv1 := lv6) (st1 := [.int ((aI hp 13 v2.toNatClampNeg) - (Int8.ofInt 48).toInt32), .int (gI hp v0 3), .ref (gR hp v0 1)]) 2 (fun _ _ _ _ => rfl) ?_
            obtain ⟨hi83, h⟩ := cd_n h
            have h := sb_e h
            refine py_si (pc := 55) (len := 1) (cs := [16, 24, 56, 60, 64]) (t := 1) (n := 7) rfl rfl rfl hi83 hm82 hS ?_
            have hS85 : oS (uI hp (gR hp v0 1) (gI hp v0 3).toNatClampNeg ((aI hp 13 v2.toNatClampNeg) - (Int8.ofInt 48).toInt32)) := oS_uI (cs := [16, 24, 56, 60, 64]) (t := 1) (n := 7) rfl hm82 hS
            generalize (uI hp (gR hp v0 1) (gI hp v0 3).toNatClampNeg ((aI hp 13 v2.toNatClampNeg) - (Int8.ofInt 48).toInt32)) = h84 at h hS85 ⊢
            refine py_its (pc := 56) (pc1 := 116) (lv1 := lv6) (st1 := []) 1 (fun _ _ _ _ => rfl) ?_
            refine py_inc (pc := 116) (len := 3) (j := 2) (n := 1) rfl rfl hk7 rfl (fun lv86 hk87 => ?_)
            have hk87 : lk lv86 [(2, .int (v2 + Int32.ofInt 1)), (3, .int (aI hp 13 v2.toNatClampNeg)), (0, .ref v0), (1, .ref 12)] := hk87
            refine py_its (pc := 119) (pc1 := 7) (lv1 := lv86) (st1 := []) 1 (fun _ _ _ _ => rfl) ?_
            exact ih (v2 + Int32.ofInt 1) h84 lv86 _ hS85 ⟨lk_find hk87 rfl, lk_find hk87 rfl, lk_find hk87 rfl, trivial⟩ h
noncomputable def fn_Rule_read (c0 : Nat) (hp : px_H) : Option (px_H) :=
  sb (wF hp c0 3 (.int (Int32.ofInt 0))) fun h1 =>
  fn_Rule_read_L7 c0 fu (Int32.ofInt 0) h1
theorem fx_Rule_read {c0 : Nat} {hp : px_H} {res : px_H} (hc0 : c0 ∈ [14, 22, 54, 58, 62]) (hS : oS hp) (h : fn_Rule_read c0 hp = some res) : px_C nm_T nm_P mi_Rule_read [.ref c0, .ref 12] hp none res ∧ oS res := by
  unfold fn_Rule_read at h
  refine py_C (M := mm_Rule_read) rfl (Nat.le_of_ble_eq_true rfl) ?_
  show px_Y mm_Rule_read 0 [(0, .ref c0), (1, .ref 12)] [] hp _ _
  refine py_its (pc := 0) (pc1 := 2) (lv1 := [(0, .ref c0), (1, .ref 12)]) (st1 := [.int (Int32.ofInt 0), .ref c0]) 2 (fun _ _ _ _ => rfl) ?_
  have h := sb_e h
  refine py_pI (pc := 2) (len := 3) (cs := [14, 22, 54, 58, 62]) rfl rfl rfl hc0 hS rfl rfl rfl rfl ?_
  have hS2 : oS (wF hp c0 3 (.int (Int32.ofInt 0))) := oS_wI (cs := [14, 22, 54, 58, 62]) (ci := 3) rfl hc0 hS
  generalize (wF hp c0 3 (.int (Int32.ofInt 0))) = h1 at h hS2 ⊢
  refine py_its (pc := 5) (pc1 := 7) (lv1 := [(2, .int (Int32.ofInt 0)), (0, .ref c0), (1, .ref 12)]) (st1 := []) 2 (fun _ _ _ _ => rfl) ?_
  exact fl_Rule_read_L7 hc0 fu (Int32.ofInt 0) h1 [(2, .int (Int32.ofInt 0)), (0, .ref c0), (1, .ref 12)] _ hS2 ⟨rfl, rfl, rfl, trivial⟩ h
/-! X_readInto -/
noncomputable def fn_X_readInto (c1 : Nat) (hp : px_H) : Option (Int32 × px_H) :=
  (fn_Text_firstFault hp).bind fun q1 =>
  bif px_cmp .ge q1 0 then
    (fn_Text_cut (Int32.ofInt 0) hp).bind fun q5 =>
    bif px_cmp .ge q1 0 then
      some (((Int32.ofInt (-1)) - q1), q5.2)
    else
      some ((gI q5.2 c1 3), q5.2)
  else
    (fn_Rule_read c1 hp).bind fun q10 =>
    (fn_Text_cut (Int32.ofInt 0) q10).bind fun q14 =>
    bif px_cmp .ge q1 0 then
      some (((Int32.ofInt (-1)) - q1), q14.2)
    else
      some ((gI q14.2 c1 3), q14.2)
theorem fx_X_readInto {c1 : Nat} {hp : px_H} {res : Int32 × px_H} (hc1 : c1 ∈ [14, 22, 54, 58, 62]) (hS : oS hp) (h : fn_X_readInto c1 hp = some res) : px_C nm_T nm_P mi_X_readInto [.ref 0, .ref c1] hp (some (.int res.1)) res.2 ∧ oS res.2 := by
  unfold fn_X_readInto at h
  refine py_C (M := mm_X_readInto) rfl (Nat.le_of_ble_eq_true rfl) ?_
  show px_Y mm_X_readInto 0 [(0, .ref 0), (1, .ref c1)] [] hp _ _
  refine py_its (pc := 0) (pc1 := 1) (lv1 := [(0, .ref 0), (1, .ref c1)]) (st1 := [.ref 0]) 1 (fun _ _ _ _ => rfl) ?_
  refine py_g1 12 (pc := 1) (len := 3) (cs := [0]) rfl rfl rfl List.mem_cons_self hS ?_
  obtain ⟨q1, hq2, h⟩ := bd_e h
  have hC3 := (fx_Text_firstFault hS hq2).1
  refine py_vi (pc := 4) (mi := mi_Text_firstFault) (cs := [12]) (N := mm_Text_firstFault) rfl rfl rfl rfl List.mem_cons_self hS rfl (Nat.le_of_ble_eq_true rfl) (Nat.le_of_ble_eq_true rfl) rfl rfl hC3 ?_
  show px_Y mm_X_readInto 7 [(0, .ref 0), (1, .ref c1)] [.int q1] hp _ _
  refine py_its (pc := 7) (pc1 := 9) (lv1 := [(2, .int q1), (0, .ref 0), (1, .ref c1)]) (st1 := [.int q1]) 2 (fun _ _ _ _ => rfl) ?_
  cases hb4 : px_cmp .ge q1 0 with
  | true =>
    have h := cd_t hb4 h
    refine py_if (pc := 9) (len := 3) true rfl hb4 ?_
    refine py_its (pc := 20) (pc1 := 21) (lv1 := [(2, .int q1), (0, .ref 0), (1, .ref c1)]) (st1 := [.ref 0]) 1 (fun _ _ _ _ => rfl) ?_
    refine py_g1 12 (pc := 21) (len := 3) (cs := [0]) rfl rfl rfl List.mem_cons_self hS ?_
    refine py_its (pc := 24) (pc1 := 25) (lv1 := [(2, .int q1), (0, .ref 0), (1, .ref c1)]) (st1 := [.int (Int32.ofInt 0), .ref 12]) 1 (fun _ _ _ _ => rfl) ?_
    obtain ⟨q5, hq6, h⟩ := bd_e h
    obtain ⟨hC7, hS8⟩ := fx_Text_cut hS hq6
    refine py_vi (pc := 25) (mi := mi_Text_cut) (cs := [12]) (N := mm_Text_cut) rfl rfl rfl rfl List.mem_cons_self hS rfl (Nat.le_of_ble_eq_true rfl) (Nat.le_of_ble_eq_true rfl) rfl rfl hC7 ?_
    show px_Y mm_X_readInto 28 [(2, .int q1), (0, .ref 0), (1, .ref c1)] [.int q5.1] q5.2 _ _
    refine py_its (pc := 28) (pc1 := 30) (lv1 := [(2, .int q1), (0, .ref 0), (1, .ref c1)]) (st1 := [.int q1]) 2 (fun _ _ _ _ => rfl) ?_
    cases hb9 : px_cmp .ge q1 0 with
    | true =>
      have h := cd_t hb9 h
      refine py_if (pc := 30) (len := 3) true rfl hb9 ?_
      refine py_its (pc := 40) (pc1 := 43) (lv1 := [(2, .int q1), (0, .ref 0), (1, .ref c1)]) (st1 := [.int ((Int32.ofInt (-1)) - q1)]) 3 (fun _ _ _ _ => rfl) ?_
      have h := Option.some.inj h
      subst h
      exact py_ir (pc := 43) (len := 1) (ty := .int) rfl rfl rfl hS8
    | false =>
      have h := cd_f hb9 h
      refine py_if (pc := 30) (len := 3) false rfl hb9 ?_
      refine py_its (pc := 33) (pc1 := 34) (lv1 := [(2, .int q1), (0, .ref 0), (1, .ref c1)]) (st1 := [.ref c1]) 1 (fun _ _ _ _ => rfl) ?_
      refine py_gI (pc := 34) (len := 3) (cs := [14, 22, 54, 58, 62]) rfl rfl rfl hc1 hS8 ?_
      refine py_its (pc := 37) (pc1 := 43) (lv1 := [(2, .int q1), (0, .ref 0), (1, .ref c1)]) (st1 := [.int (gI q5.2 c1 3)]) 1 (fun _ _ _ _ => rfl) ?_
      have h := Option.some.inj h
      subst h
      exact py_ir (pc := 43) (len := 1) (ty := .int) rfl rfl rfl hS8
  | false =>
    have h := cd_f hb4 h
    refine py_if (pc := 9) (len := 3) false rfl hb4 ?_
    refine py_its (pc := 12) (pc1 := 14) (lv1 := [(2, .int q1), (0, .ref 0), (1, .ref c1)]) (st1 := [.ref 0, .ref c1]) 2 (fun _ _ _ _ => rfl) ?_
    refine py_g1 12 (pc := 14) (len := 3) (cs := [0]) rfl rfl rfl List.mem_cons_self hS ?_
    obtain ⟨q10, hq11, h⟩ := bd_e h
    obtain ⟨hC12, hS13⟩ := fx_Rule_read hc1 hS hq11
    refine py_vi (pc := 17) (mi := mi_Rule_read) (cs := [14, 22, 54, 58, 62]) (N := mm_Rule_read) rfl rfl rfl rfl hc1 hS rfl (Nat.le_of_ble_eq_true rfl) (Nat.le_of_ble_eq_true rfl) rfl rfl hC12 ?_
    show px_Y mm_X_readInto 20 [(2, .int q1), (0, .ref 0), (1, .ref c1)] [] q10 _ _
    refine py_its (pc := 20) (pc1 := 21) (lv1 := [(2, .int q1), (0, .ref 0), (1, .ref c1)]) (st1 := [.ref 0]) 1 (fun _ _ _ _ => rfl) ?_
    refine py_g1 12 (pc := 21) (len := 3) (cs := [0]) rfl rfl rfl List.mem_cons_self hS13 ?_
    refine py_its (pc := 24) (pc1 := 25) (lv1 := [(2, .int q1), (0, .ref 0), (1, .ref c1)]) (st1 := [.int (Int32.ofInt 0), .ref 12]) 1 (fun _ _ _ _ => rfl) ?_
    obtain ⟨q14, hq15, h⟩ := bd_e h
    obtain ⟨hC16, hS17⟩ := fx_Text_cut hS13 hq15
    refine py_vi (pc := 25) (mi := mi_Text_cut) (cs := [12]) (N := mm_Text_cut) rfl rfl rfl rfl List.mem_cons_self hS13 rfl (Nat.le_of_ble_eq_true rfl) (Nat.le_of_ble_eq_true rfl) rfl rfl hC16 ?_
    show px_Y mm_X_readInto 28 [(2, .int q1), (0, .ref 0), (1, .ref c1)] [.int q14.1] q14.2 _ _
    refine py_its (pc := 28) (pc1 := 30) (lv1 := [(2, .int q1), (0, .ref 0), (1, .ref c1)]) (st1 := [.int q1]) 2 (fun _ _ _ _ => rfl) ?_
    cases hb18 : px_cmp .ge q1 0 with
    | true =>
      have h := cd_t hb18 h
      refine py_if (pc := 30) (len := 3) true rfl hb18 ?_
      refine py_its (pc := 40) (pc1 := 43) (lv1 := [(2, .int q1), (0, .ref 0), (1, .ref c1)]) (st1 := [.int ((Int32.ofInt (-1)) - q1)]) 3 (fun _ _ _ _ => rfl) ?_
      have h := Option.some.inj h
      subst h
      exact py_ir (pc := 43) (len := 1) (ty := .int) rfl rfl rfl hS17
    | false =>
      have h := cd_f hb18 h
      refine py_if (pc := 30) (len := 3) false rfl hb18 ?_
      refine py_its (pc := 33) (pc1 := 34) (lv1 := [(2, .int q1), (0, .ref 0), (1, .ref c1)]) (st1 := [.ref c1]) 1 (fun _ _ _ _ => rfl) ?_
      refine py_gI (pc := 34) (len := 3) (cs := [14, 22, 54, 58, 62]) rfl rfl rfl hc1 hS17 ?_
      refine py_its (pc := 37) (pc1 := 43) (lv1 := [(2, .int q1), (0, .ref 0), (1, .ref c1)]) (st1 := [.int (gI q14.2 c1 3)]) 1 (fun _ _ _ _ => rfl) ?_
      have h := Option.some.inj h
      subst h
      exact py_ir (pc := 43) (len := 1) (ty := .int) rfl rfl rfl hS17
/-! X_rule -/
noncomputable def fn_X_rule  (hp : px_H) : Option (Int32 × px_H) :=
  (fn_X_readInto 14 hp).bind fun q1 =>
  some (q1.1, q1.2)
theorem fx_X_rule  {hp : px_H} {res : Int32 × px_H} (hS : oS hp) (h : fn_X_rule hp = some res) : px_C nm_T nm_P mi_X_rule [.ref 0] hp (some (.int res.1)) res.2 ∧ oS res.2 := by
  unfold fn_X_rule at h
  refine py_C (M := mm_X_rule) rfl (Nat.le_of_ble_eq_true rfl) ?_
  show px_Y mm_X_rule 0 [(0, .ref 0)] [] hp _ _
  refine py_its (pc := 0) (pc1 := 2) (lv1 := [(0, .ref 0)]) (st1 := [.ref 0, .ref 0]) 2 (fun _ _ _ _ => rfl) ?_
  refine py_g1 14 (pc := 2) (len := 3) (cs := [0]) rfl rfl rfl List.mem_cons_self hS ?_
  obtain ⟨q1, hq2, h⟩ := bd_e h
  obtain ⟨hC3, hS4⟩ := fx_X_readInto (List.mem_of_elem_eq_true rfl) hS hq2
  refine py_vi (pc := 5) (mi := mi_X_readInto) (cs := [0]) (N := mm_X_readInto) rfl rfl rfl rfl List.mem_cons_self hS rfl (Nat.le_of_ble_eq_true rfl) (Nat.le_of_ble_eq_true rfl) rfl rfl hC3 ?_
  show px_Y mm_X_rule 8 [(0, .ref 0)] [.int q1.1] q1.2 _ _
  have h := Option.some.inj h
  subst h
  exact py_ir (pc := 8) (len := 1) (ty := .int) rfl rfl rfl hS4
/-! X_other -/
noncomputable def fn_X_other (a1 : Int32) (hp : px_H) : Option (Int32 × px_H) :=
  bif px_cmp .lt a1 0 then
    (fn_Text_cut (Int32.ofInt 0) hp).bind fun q2 =>
    some ((Int8.ofInt (-100)).toInt32, q2.2)
  else
    bif px_cmp .lt a1 (Int32.ofInt 3) then
      bif px_inR a1 3 then
      (fn_X_readInto (aR hp 18 a1.toNatClampNeg) hp).bind fun q9 =>
      bif px_cmp .lt q9.1 0 then
        some (q9.1, q9.2)
      else
        sb (wF q9.2 0 4 (.int ((gI q9.2 0 4) ||| ((Int32.ofInt 1) <<< (a1 &&& 31))))) fun h14 =>
        some (q9.1, h14)
      else none
    else
      (fn_Text_cut (Int32.ofInt 0) hp).bind fun q16 =>
      some ((Int8.ofInt (-100)).toInt32, q16.2)
theorem fx_X_other {a1 : Int32} {hp : px_H} {res : Int32 × px_H} (hS : oS hp) (h : fn_X_other a1 hp = some res) : px_C nm_T nm_P mi_X_other [.ref 0, .int a1] hp (some (.int res.1)) res.2 ∧ oS res.2 := by
  unfold fn_X_other at h
  refine py_C (M := mm_X_other) rfl (Nat.le_of_ble_eq_true rfl) ?_
  show px_Y mm_X_other 0 [(0, .ref 0), (1, .int a1)] [] hp _ _
  refine py_its (pc := 0) (pc1 := 1) (lv1 := [(0, .ref 0), (1, .int a1)]) (st1 := [.int a1]) 1 (fun _ _ _ _ => rfl) ?_
  cases hb1 : px_cmp .lt a1 0 with
  | true =>
    have h := cd_t hb1 h
    refine py_if (pc := 1) (len := 3) true rfl hb1 ?_
    refine py_its (pc := 9) (pc1 := 10) (lv1 := [(0, .ref 0), (1, .int a1)]) (st1 := [.ref 0]) 1 (fun _ _ _ _ => rfl) ?_
    refine py_g1 12 (pc := 10) (len := 3) (cs := [0]) rfl rfl rfl List.mem_cons_self hS ?_
    refine py_its (pc := 13) (pc1 := 14) (lv1 := [(0, .ref 0), (1, .int a1)]) (st1 := [.int (Int32.ofInt 0), .ref 12]) 1 (fun _ _ _ _ => rfl) ?_
    obtain ⟨q2, hq3, h⟩ := bd_e h
    obtain ⟨hC4, hS5⟩ := fx_Text_cut hS hq3
    refine py_vi (pc := 14) (mi := mi_Text_cut) (cs := [12]) (N := mm_Text_cut) rfl rfl rfl rfl List.mem_cons_self hS rfl (Nat.le_of_ble_eq_true rfl) (Nat.le_of_ble_eq_true rfl) rfl rfl hC4 ?_
    show px_Y mm_X_other 17 [(0, .ref 0), (1, .int a1)] [.int q2.1] q2.2 _ _
    refine py_its (pc := 17) (pc1 := 20) (lv1 := [(0, .ref 0), (1, .int a1)]) (st1 := [.int (Int8.ofInt (-100)).toInt32]) 2 (fun _ _ _ _ => rfl) ?_
    have h := Option.some.inj h
    subst h
    exact py_ir (pc := 20) (len := 1) (ty := .int) rfl rfl rfl hS5
  | false =>
    have h := cd_f hb1 h
    refine py_if (pc := 1) (len := 3) false rfl hb1 ?_
    refine py_its (pc := 4) (pc1 := 6) (lv1 := [(0, .ref 0), (1, .int a1)]) (st1 := [.int (Int32.ofInt 3), .int a1]) 2 (fun _ _ _ _ => rfl) ?_
    cases hb6 : px_cmp .lt a1 (Int32.ofInt 3) with
    | true =>
      have h := cd_t hb6 h
      refine py_ic (pc := 6) (len := 3) true rfl hb6 ?_
      refine py_its (pc := 21) (pc1 := 23) (lv1 := [(0, .ref 0), (1, .int a1)]) (st1 := [.ref 0, .ref 0]) 2 (fun _ _ _ _ => rfl) ?_
      refine py_g1 18 (pc := 23) (len := 3) (cs := [0]) rfl rfl rfl List.mem_cons_self hS ?_
      refine py_its (pc := 26) (pc1 := 27) (lv1 := [(0, .ref 0), (1, .int a1)]) (st1 := [.int a1, .ref 18, .ref 0]) 1 (fun _ _ _ _ => rfl) ?_
      obtain ⟨hi7, h⟩ := cd_n h
      refine py_ar [54, 58, 62] (pc := 27) (len := 1) (cs := [18]) (t := 22) (n := 3) rfl rfl rfl hi7 List.mem_cons_self hS (fun hm8 => ?_)
      obtain ⟨q9, hq10, h⟩ := bd_e h
      obtain ⟨hC11, hS12⟩ := fx_X_readInto (sx_sub rfl hm8) hS hq10
      refine py_vi (pc := 28) (mi := mi_X_readInto) (cs := [0]) (N := mm_X_readInto) rfl rfl rfl rfl List.mem_cons_self hS rfl (Nat.le_of_ble_eq_true rfl) (Nat.le_of_ble_eq_true rfl) rfl rfl hC11 ?_
      show px_Y mm_X_other 31 [(0, .ref 0), (1, .int a1)] [.int q9.1] q9.2 _ _
      refine py_its (pc := 31) (pc1 := 33) (lv1 := [(2, .int q9.1), (0, .ref 0), (1, .int a1)]) (st1 := [.int q9.1]) 2 (fun _ _ _ _ => rfl) ?_
      cases hb13 : px_cmp .lt q9.1 0 with
      | true =>
        have h := cd_t hb13 h
        refine py_if (pc := 33) (len := 3) true rfl hb13 ?_
        refine py_its (pc := 48) (pc1 := 49) (lv1 := [(2, .int q9.1), (0, .ref 0), (1, .int a1)]) (st1 := [.int q9.1]) 1 (fun _ _ _ _ => rfl) ?_
        have h := Option.some.inj h
        subst h
        exact py_ir (pc := 49) (len := 1) (ty := .int) rfl rfl rfl hS12
      | false =>
        have h := cd_f hb13 h
        refine py_if (pc := 33) (len := 3) false rfl hb13 ?_
        refine py_its (pc := 36) (pc1 := 38) (lv1 := [(2, .int q9.1), (0, .ref 0), (1, .int a1)]) (st1 := [.ref 0, .ref 0]) 2 (fun _ _ _ _ => rfl) ?_
        refine py_gI (pc := 38) (len := 3) (cs := [0]) rfl rfl rfl List.mem_cons_self hS12 ?_
        refine py_its (pc := 41) (pc1 := 45) (lv1 := [(2, .int q9.1), (0, .ref 0), (1, .int a1)]) (st1 := [.int ((gI q9.2 0 4) ||| ((Int32.ofInt 1) <<< (a1 &&& 31))), .ref 0]) 4 (fun _ _ _ _ => rfl) ?_
        have h := sb_e h
        refine py_pI (pc := 45) (len := 3) (cs := [0]) rfl rfl rfl List.mem_cons_self hS12 rfl rfl rfl rfl ?_
        have hS15 : oS (wF q9.2 0 4 (.int ((gI q9.2 0 4) ||| ((Int32.ofInt 1) <<< (a1 &&& 31))))) := oS_wI (cs := [0]) (ci := 8) rfl List.mem_cons_self hS12
        generalize (wF q9.2 0 4 (.int ((gI q9.2 0 4) ||| ((Int32.ofInt 1) <<< (a1 &&& 31))))) = h14 at h hS15 ⊢
        refine py_its (pc := 48) (pc1 := 49) (lv1 := [(2, .int q9.1), (0, .ref 0), (1, .int a1)]) (st1 := [.int q9.1]) 1 (fun _ _ _ _ => rfl) ?_
        have h := Option.some.inj h
        subst h
        exact py_ir (pc := 49) (len := 1) (ty := .int) rfl rfl rfl hS15
    | false =>
      have h := cd_f hb6 h
      refine py_ic (pc := 6) (len := 3) false rfl hb6 ?_
      refine py_its (pc := 9) (pc1 := 10) (lv1 := [(0, .ref 0), (1, .int a1)]) (st1 := [.ref 0]) 1 (fun _ _ _ _ => rfl) ?_
      refine py_g1 12 (pc := 10) (len := 3) (cs := [0]) rfl rfl rfl List.mem_cons_self hS ?_
      refine py_its (pc := 13) (pc1 := 14) (lv1 := [(0, .ref 0), (1, .int a1)]) (st1 := [.int (Int32.ofInt 0), .ref 12]) 1 (fun _ _ _ _ => rfl) ?_
      obtain ⟨q16, hq17, h⟩ := bd_e h
      obtain ⟨hC18, hS19⟩ := fx_Text_cut hS hq17
      refine py_vi (pc := 14) (mi := mi_Text_cut) (cs := [12]) (N := mm_Text_cut) rfl rfl rfl rfl List.mem_cons_self hS rfl (Nat.le_of_ble_eq_true rfl) (Nat.le_of_ble_eq_true rfl) rfl rfl hC18 ?_
      show px_Y mm_X_other 17 [(0, .ref 0), (1, .int a1)] [.int q16.1] q16.2 _ _
      refine py_its (pc := 17) (pc1 := 20) (lv1 := [(0, .ref 0), (1, .int a1)]) (st1 := [.int (Int8.ofInt (-100)).toInt32]) 2 (fun _ _ _ _ => rfl) ?_
      have h := Option.some.inj h
      subst h
      exact py_ir (pc := 20) (len := 1) (ty := .int) rfl rfl rfl hS19
/-! M_sign -/
noncomputable def fb_M_sign_L18 (v1 : Int32) (rc : Int32 → px_H → Option (Int32 × px_H)) (v2 : Int32) (hp : px_H) : Option (Int32 × px_H) :=
  bif px_cmp .ge v2 (Int32.ofInt 4) then
    sb (wF hp 69 22 (.int ((gI hp 69 22) + (Int32.ofInt 4)))) fun h5 =>
    some ((gI h5 69 22), h5)
  else
    bif px_inR ((gI hp 69 22) + v2) 40 then
    sb (uI hp 85 ((gI hp 69 22) + v2).toNatClampNeg ((v1 >>> (((Int8.ofInt 24).toInt32 - ((Int8.ofInt 8).toInt32 * v2)) &&& 31)) &&& (Int16.ofInt 255).toInt32)) fun h8 =>
    rc (v2 + Int32.ofInt 1) h8
    else none
noncomputable def fn_M_sign_L18 (v1 : Int32) : Nat → Int32 → px_H → Option (Int32 × px_H)
  | 0 => fun _ _ => none
  | n + 1 => fb_M_sign_L18 v1 (fn_M_sign_L18 v1 n)
theorem fl_M_sign_L18 {v1 : Int32}  : ∀ (n : Nat) (v2 : Int32) (hp : px_H) (lv : List (Nat × Value)) (res : Int32 × px_H), oS hp → lk lv [(0, .ref 69), (1, .int v1), (2, .int v2)] → fn_M_sign_L18 v1 n v2 hp = some res → px_Y mm_M_sign 18 lv [] hp (some (.int res.1)) res.2 := by
  intro n
  induction n with
  | zero =>
    intro v2 hp lv res hS hk h
    cases h
  | succ n ih =>
    intro v2 hp lv res hS hk h
    have h : fb_M_sign_L18 v1 (fn_M_sign_L18 v1 n) v2 hp = some res := h
    unfold fb_M_sign_L18 at h
    refine py_iln (pc := 18) (len := 1) (j := 2) rfl hk rfl ?_
    refine py_its (pc := 19) (pc1 := 20) (lv1 := lv) (st1 := [.int (Int32.ofInt 4), .int v2]) 1 (fun _ _ _ _ => rfl) ?_
    cases hb4 : px_cmp .ge v2 (Int32.ofInt 4) with
    | true =>
      have h := cd_t hb4 h
      refine py_ic (pc := 20) (len := 3) true rfl hb4 ?_
      refine py_aln (pc := 53) (len := 1) (j := 0) rfl hk rfl ?_
      refine py_its (pc := 54) (pc1 := 55) (lv1 := lv) (st1 := [.ref 69, .ref 69]) 1 (fun _ _ _ _ => rfl) ?_
      refine py_gI (pc := 55) (len := 3) (cs := [69]) rfl rfl rfl List.mem_cons_self hS ?_
      refine py_its (pc := 58) (pc1 := 60) (lv1 := lv) (st1 := [.int ((gI hp 69 22) + (Int32.ofInt 4)), .ref 69]) 2 (fun _ _ _ _ => rfl) ?_
      have h := sb_e h
      refine py_pI (pc := 60) (len := 3) (cs := [69]) rfl rfl rfl List.mem_cons_self hS rfl rfl rfl rfl ?_
      have hS6 : oS (wF hp 69 22 (.int ((gI hp 69 22) + (Int32.ofInt 4)))) := oS_wI (cs := [69]) (ci := 9) rfl List.mem_cons_self hS
      generalize (wF hp 69 22 (.int ((gI hp 69 22) + (Int32.ofInt 4)))) = h5 at h hS6 ⊢
      refine py_aln (pc := 63) (len := 1) (j := 0) rfl hk rfl ?_
      refine py_gI (pc := 64) (len := 3) (cs := [69]) rfl rfl rfl List.mem_cons_self hS6 ?_
      have h := Option.some.inj h
      subst h
      exact py_ir (pc := 67) (len := 1) (ty := .int) rfl rfl rfl hS6
    | false =>
      have h := cd_f hb4 h
      refine py_ic (pc := 20) (len := 3) false rfl hb4 ?_
      refine py_aln (pc := 23) (len := 1) (j := 0) rfl hk rfl ?_
      refine py_g1 85 (pc := 24) (len := 3) (cs := [69]) rfl rfl rfl List.mem_cons_self hS ?_
      refine py_aln (pc := 27) (len := 1) (j := 0) rfl hk rfl ?_
      refine py_gI (pc := 28) (len := 3) (cs := [69]) rfl rfl rfl List.mem_cons_self hS ?_
      refine py_iln (pc := 31) (len := 1) (j := 2) rfl hk rfl ?_
      refine py_its (pc := 32) (pc1 := 33) (lv1 := lv) (st1 := [.int ((gI hp 69 22) + v2), .ref 85]) 1 (fun _ _ _ _ => rfl) ?_
      refine py_iln (pc := 33) (len := 1) (j := 1) rfl hk rfl ?_
      refine py_its (pc := 34) (pc1 := 38) (lv1 := lv) (st1 := [.int (Int8.ofInt 8).toInt32, .int (Int8.ofInt 24).toInt32, .int v1, .int ((gI hp 69 22) + v2), .ref 85]) 2 (fun _ _ _ _ => rfl) ?_
      refine py_iln (pc := 38) (len := 1) (j := 2) rfl hk rfl ?_
      refine py_its (pc := 39) (pc1 := 46) (lv1 := lv) (st1 := [.int ((v1 >>> (((Int8.ofInt 24).toInt32 - ((Int8.ofInt 8).toInt32 * v2)) &&& 31)) &&& (Int16.ofInt 255).toInt32), .int ((gI hp 69 22) + v2), .ref 85]) 5 (fun _ _ _ _ => rfl) ?_
      obtain ⟨hi7, h⟩ := cd_n h
      have h := sb_e h
      refine py_si (pc := 46) (len := 1) (cs := [85]) (t := 42) (n := 40) rfl rfl rfl hi7 List.mem_cons_self hS ?_
      have hS9 : oS (uI hp 85 ((gI hp 69 22) + v2).toNatClampNeg ((v1 >>> (((Int8.ofInt 24).toInt32 - ((Int8.ofInt 8).toInt32 * v2)) &&& 31)) &&& (Int16.ofInt 255).toInt32)) := oS_uI (cs := [85]) (t := 42) (n := 40) rfl List.mem_cons_self hS
      generalize (uI hp 85 ((gI hp 69 22) + v2).toNatClampNeg ((v1 >>> (((Int8.ofInt 24).toInt32 - ((Int8.ofInt 8).toInt32 * v2)) &&& 31)) &&& (Int16.ofInt 255).toInt32)) = h8 at h hS9 ⊢
      refine py_inc (pc := 47) (len := 3) (j := 2) (n := 1) rfl rfl hk rfl (fun lv10 hk11 => ?_)
      have hk11 : lk lv10 [(2, .int (v2 + Int32.ofInt 1)), (0, .ref 69), (1, .int v1)] := hk11
      refine py_its (pc := 50) (pc1 := 18) (lv1 := lv10) (st1 := []) 1 (fun _ _ _ _ => rfl) ?_
      exact ih (v2 + Int32.ofInt 1) h8 lv10 _ hS9 ⟨lk_find hk11 rfl, lk_find hk11 rfl, lk_find hk11 rfl, trivial⟩ h
noncomputable def fn_M_sign (a1 : Int32) (hp : px_H) : Option (Int32 × px_H) :=
  sb (wF hp 69 0 (.int (Int32.ofInt 0))) fun h1 =>
  bif px_cmp .le (gI h1 69 22) (Int8.ofInt 36).toInt32 then
    fn_M_sign_L18 a1 fu (Int32.ofInt 0) h1
  else
    some ((Int32.ofInt (-1)), h1)
theorem fx_M_sign {a1 : Int32} {hp : px_H} {res : Int32 × px_H} (hS : oS hp) (h : fn_M_sign a1 hp = some res) : px_C nm_T nm_P mi_M_sign [.ref 69, .int a1] hp (some (.int res.1)) res.2 ∧ oS res.2 := by
  unfold fn_M_sign at h
  refine py_C (M := mm_M_sign) rfl (Nat.le_of_ble_eq_true rfl) ?_
  show px_Y mm_M_sign 0 [(0, .ref 69), (1, .int a1)] [] hp _ _
  refine py_its (pc := 0) (pc1 := 2) (lv1 := [(0, .ref 69), (1, .int a1)]) (st1 := [.int (Int32.ofInt 0), .ref 69]) 2 (fun _ _ _ _ => rfl) ?_
  have h := sb_e h
  refine py_pI (pc := 2) (len := 3) (cs := [69]) rfl rfl rfl List.mem_cons_self hS rfl rfl rfl rfl ?_
  have hS2 : oS (wF hp 69 0 (.int (Int32.ofInt 0))) := oS_wI (cs := [69]) (ci := 9) rfl List.mem_cons_self hS
  generalize (wF hp 69 0 (.int (Int32.ofInt 0))) = h1 at h hS2 ⊢
  refine py_its (pc := 5) (pc1 := 6) (lv1 := [(0, .ref 69), (1, .int a1)]) (st1 := [.ref 69]) 1 (fun _ _ _ _ => rfl) ?_
  refine py_gI (pc := 6) (len := 3) (cs := [69]) rfl rfl rfl List.mem_cons_self hS2 ?_
  refine py_its (pc := 9) (pc1 := 11) (lv1 := [(0, .ref 69), (1, .int a1)]) (st1 := [.int (Int8.ofInt 36).toInt32, .int (gI h1 69 22)]) 1 (fun _ _ _ _ => rfl) ?_
  cases hb3 : px_cmp .le (gI h1 69 22) (Int8.ofInt 36).toInt32 with
  | true =>
    have h := cd_t hb3 h
    refine py_ic (pc := 11) (len := 3) true rfl hb3 ?_
    refine py_its (pc := 16) (pc1 := 18) (lv1 := [(2, .int (Int32.ofInt 0)), (0, .ref 69), (1, .int a1)]) (st1 := []) 2 (fun _ _ _ _ => rfl) ?_
    exact fl_M_sign_L18 fu (Int32.ofInt 0) h1 [(2, .int (Int32.ofInt 0)), (0, .ref 69), (1, .int a1)] _ hS2 ⟨rfl, rfl, rfl, trivial⟩ h
  | false =>
    have h := cd_f hb3 h
    refine py_ic (pc := 11) (len := 3) false rfl hb3 ?_
    refine py_its (pc := 14) (pc1 := 15) (lv1 := [(0, .ref 69), (1, .int a1)]) (st1 := [.int (Int32.ofInt (-1))]) 1 (fun _ _ _ _ => rfl) ?_
    have h := Option.some.inj h
    subst h
    exact py_ir (pc := 15) (len := 1) (ty := .int) rfl rfl rfl hS2
/-! M_end -/
noncomputable def fn_M_end (a1 : Int32) (hp : px_H) : Option (Int32 × px_H) :=
  sb (wF hp 69 0 (.int (Int32.ofInt 0))) fun h1 =>
  bif px_cmp .ne (sx_in a1.toInt64 (Int64.ofNat 0) (gI h1 69 22).toInt64) 0 then
    sb (wF h1 69 22 (.int a1)) fun h4 =>
    some ((Int32.ofInt 1), h4)
  else
    some ((Int32.ofInt 0), h1)
theorem fx_M_end {a1 : Int32} {hp : px_H} {res : Int32 × px_H} (hS : oS hp) (h : fn_M_end a1 hp = some res) : px_C nm_T nm_P mi_M_end [.ref 69, .int a1] hp (some (.int res.1)) res.2 ∧ oS res.2 := by
  unfold fn_M_end at h
  refine py_C (M := mm_M_end) rfl (Nat.le_of_ble_eq_true rfl) ?_
  show px_Y mm_M_end 0 [(0, .ref 69), (1, .int a1)] [] hp _ _
  refine py_its (pc := 0) (pc1 := 2) (lv1 := [(0, .ref 69), (1, .int a1)]) (st1 := [.int (Int32.ofInt 0), .ref 69]) 2 (fun _ _ _ _ => rfl) ?_
  have h := sb_e h
  refine py_pI (pc := 2) (len := 3) (cs := [69]) rfl rfl rfl List.mem_cons_self hS rfl rfl rfl rfl ?_
  have hS2 : oS (wF hp 69 0 (.int (Int32.ofInt 0))) := oS_wI (cs := [69]) (ci := 9) rfl List.mem_cons_self hS
  generalize (wF hp 69 0 (.int (Int32.ofInt 0))) = h1 at h hS2 ⊢
  refine py_its (pc := 5) (pc1 := 9) (lv1 := [(0, .ref 69), (1, .int a1)]) (st1 := [.ref 69, .long (Int64.ofNat 0), .long a1.toInt64]) 4 (fun _ _ _ _ => rfl) ?_
  refine py_gI (pc := 9) (len := 3) (cs := [69]) rfl rfl rfl List.mem_cons_self hS2 ?_
  refine py_its (pc := 12) (pc1 := 13) (lv1 := [(0, .ref 69), (1, .int a1)]) (st1 := [.long (gI h1 69 22).toInt64, .long (Int64.ofNat 0), .long a1.toInt64]) 1 (fun _ _ _ _ => rfl) ?_
  refine py_st (pc := 13) (mi := mi_M_in) (N := mm_M_in) rfl rfl rfl (Nat.le_of_ble_eq_true rfl) (Nat.le_of_ble_eq_true rfl) rfl rfl (sx_in_C a1.toInt64 (Int64.ofNat 0) (gI h1 69 22).toInt64 h1) ?_
  show px_Y mm_M_end 16 [(0, .ref 69), (1, .int a1)] [.int (sx_in a1.toInt64 (Int64.ofNat 0) (gI h1 69 22).toInt64)] h1 _ _
  cases hb3 : px_cmp .ne (sx_in a1.toInt64 (Int64.ofNat 0) (gI h1 69 22).toInt64) 0 with
  | true =>
    have h := cd_t hb3 h
    refine py_if (pc := 16) (len := 3) true rfl hb3 ?_
    refine py_its (pc := 21) (pc1 := 23) (lv1 := [(0, .ref 69), (1, .int a1)]) (st1 := [.int a1, .ref 69]) 2 (fun _ _ _ _ => rfl) ?_
    have h := sb_e h
    refine py_pI (pc := 23) (len := 3) (cs := [69]) rfl rfl rfl List.mem_cons_self hS2 rfl rfl rfl rfl ?_
    have hS5 : oS (wF h1 69 22 (.int a1)) := oS_wI (cs := [69]) (ci := 9) rfl List.mem_cons_self hS2
    generalize (wF h1 69 22 (.int a1)) = h4 at h hS5 ⊢
    refine py_its (pc := 26) (pc1 := 27) (lv1 := [(0, .ref 69), (1, .int a1)]) (st1 := [.int (Int32.ofInt 1)]) 1 (fun _ _ _ _ => rfl) ?_
    have h := Option.some.inj h
    subst h
    exact py_ir (pc := 27) (len := 1) (ty := .boolean) rfl rfl (by decide) hS5
  | false =>
    have h := cd_f hb3 h
    refine py_if (pc := 16) (len := 3) false rfl hb3 ?_
    refine py_its (pc := 19) (pc1 := 20) (lv1 := [(0, .ref 69), (1, .int a1)]) (st1 := [.int (Int32.ofInt 0)]) 1 (fun _ _ _ _ => rfl) ?_
    have h := Option.some.inj h
    subst h
    exact py_ir (pc := 20) (len := 1) (ty := .boolean) rfl rfl (by decide) hS2
/-! M_flag -/
noncomputable def fn_M_flag (a0 : Int32) (hp : px_H) : Option (Int32) :=
  bif px_cmp .eq a0 0 then
    some (Int32.ofInt 0)
  else
    some (Int32.ofInt 1)
theorem fx_M_flag {a0 : Int32} {hp : px_H} {res : Int32} (hS : oS hp) (h : fn_M_flag a0 hp = some res) : px_C nm_T nm_P mi_M_flag [.int a0] hp (some (.int res)) hp ∧ oS hp := by
  unfold fn_M_flag at h
  refine py_C (M := mm_M_flag) rfl (Nat.le_of_ble_eq_true rfl) ?_
  show px_Y mm_M_flag 0 [(0, .int a0)] [] hp _ _
  refine py_its (pc := 0) (pc1 := 1) (lv1 := [(0, .int a0)]) (st1 := [.int a0]) 1 (fun _ _ _ _ => rfl) ?_
  cases hb1 : px_cmp .eq a0 0 with
  | true =>
    have h := cd_t hb1 h
    refine py_if (pc := 1) (len := 3) true rfl hb1 ?_
    refine py_its (pc := 8) (pc1 := 9) (lv1 := [(0, .int a0)]) (st1 := [.int (Int32.ofInt 0)]) 1 (fun _ _ _ _ => rfl) ?_
    have h := Option.some.inj h
    subst h
    exact py_ir (pc := 9) (len := 1) (ty := .int) rfl rfl rfl hS
  | false =>
    have h := cd_f hb1 h
    refine py_if (pc := 1) (len := 3) false rfl hb1 ?_
    refine py_its (pc := 4) (pc1 := 9) (lv1 := [(0, .int a0)]) (st1 := [.int (Int32.ofInt 1)]) 2 (fun _ _ _ _ => rfl) ?_
    have h := Option.some.inj h
    subst h
    exact py_ir (pc := 9) (len := 1) (ty := .int) rfl rfl rfl hS
/-! M_comes -/
noncomputable def fn_M_comes (a1 : Int32) (hp : px_H) : Option (Int32 × px_H) :=
  bif px_cmp .ge (gI hp 69 23) (gI hp 69 24) then
    (fn_M_flag (Int32.ofInt 0) hp).bind fun q2 =>
    sb (wF hp 69 23 (.int ((gI hp 69 23) + q2))) fun h5 =>
    some ((Int32.ofInt 0), h5)
  else
    bif px_inR (gI hp 69 23) 40 then
    bif px_cmp .ne (aI hp 85 (gI hp 69 23).toNatClampNeg) a1 then
      (fn_M_flag (Int32.ofInt 0) hp).bind fun q9 =>
      sb (wF hp 69 23 (.int ((gI hp 69 23) + q9))) fun h12 =>
      some ((Int32.ofInt 0), h12)
    else
      (fn_M_flag (Int32.ofInt 1) hp).bind fun q14 =>
      sb (wF hp 69 23 (.int ((gI hp 69 23) + q14))) fun h17 =>
      some ((Int32.ofInt 1), h17)
    else none
theorem fx_M_comes {a1 : Int32} {hp : px_H} {res : Int32 × px_H} (hS : oS hp) (h : fn_M_comes a1 hp = some res) : px_C nm_T nm_P mi_M_comes [.ref 69, .int a1] hp (some (.int res.1)) res.2 ∧ oS res.2 := by
  unfold fn_M_comes at h
  refine py_C (M := mm_M_comes) rfl (Nat.le_of_ble_eq_true rfl) ?_
  show px_Y mm_M_comes 0 [(0, .ref 69), (1, .int a1)] [] hp _ _
  refine py_its (pc := 0) (pc1 := 1) (lv1 := [(0, .ref 69), (1, .int a1)]) (st1 := [.ref 69]) 1 (fun _ _ _ _ => rfl) ?_
  refine py_gI (pc := 1) (len := 3) (cs := [69]) rfl rfl rfl List.mem_cons_self hS ?_
  refine py_its (pc := 4) (pc1 := 5) (lv1 := [(0, .ref 69), (1, .int a1)]) (st1 := [.ref 69, .int (gI hp 69 23)]) 1 (fun _ _ _ _ => rfl) ?_
  refine py_gI (pc := 5) (len := 3) (cs := [69]) rfl rfl rfl List.mem_cons_self hS ?_
  cases hb1 : px_cmp .ge (gI hp 69 23) (gI hp 69 24) with
  | true =>
    have h := cd_t hb1 h
    refine py_ic (pc := 8) (len := 3) true rfl hb1 ?_
    refine py_its (pc := 28) (pc1 := 32) (lv1 := [(2, .int (Int32.ofInt 0)), (0, .ref 69), (1, .int a1)]) (st1 := [.ref 69, .ref 69]) 4 (fun _ _ _ _ => rfl) ?_
    refine py_gI (pc := 32) (len := 3) (cs := [69]) rfl rfl rfl List.mem_cons_self hS ?_
    refine py_its (pc := 35) (pc1 := 36) (lv1 := [(2, .int (Int32.ofInt 0)), (0, .ref 69), (1, .int a1)]) (st1 := [.int (Int32.ofInt 0), .int (gI hp 69 23), .ref 69]) 1 (fun _ _ _ _ => rfl) ?_
    obtain ⟨q2, hq3, h⟩ := bd_e h
    have hC4 := (fx_M_flag hS hq3).1
    refine py_st (pc := 36) (mi := mi_M_flag) (N := mm_M_flag) rfl rfl rfl (Nat.le_of_ble_eq_true rfl) (Nat.le_of_ble_eq_true rfl) rfl rfl hC4 ?_
    show px_Y mm_M_comes 39 [(2, .int (Int32.ofInt 0)), (0, .ref 69), (1, .int a1)] [.int q2, .int (gI hp 69 23), .ref 69] hp _ _
    refine py_its (pc := 39) (pc1 := 40) (lv1 := [(2, .int (Int32.ofInt 0)), (0, .ref 69), (1, .int a1)]) (st1 := [.int ((gI hp 69 23) + q2), .ref 69]) 1 (fun _ _ _ _ => rfl) ?_
    have h := sb_e h
    refine py_pI (pc := 40) (len := 3) (cs := [69]) rfl rfl rfl List.mem_cons_self hS rfl rfl rfl rfl ?_
    have hS6 : oS (wF hp 69 23 (.int ((gI hp 69 23) + q2))) := oS_wI (cs := [69]) (ci := 9) rfl List.mem_cons_self hS
    generalize (wF hp 69 23 (.int ((gI hp 69 23) + q2))) = h5 at h hS6 ⊢
    refine py_its (pc := 43) (pc1 := 44) (lv1 := [(2, .int (Int32.ofInt 0)), (0, .ref 69), (1, .int a1)]) (st1 := [.int (Int32.ofInt 0)]) 1 (fun _ _ _ _ => rfl) ?_
    have h := Option.some.inj h
    subst h
    exact py_ir (pc := 44) (len := 1) (ty := .boolean) rfl rfl (by decide) hS6
  | false =>
    have h := cd_f hb1 h
    refine py_ic (pc := 8) (len := 3) false rfl hb1 ?_
    refine py_its (pc := 11) (pc1 := 12) (lv1 := [(0, .ref 69), (1, .int a1)]) (st1 := [.ref 69]) 1 (fun _ _ _ _ => rfl) ?_
    refine py_g1 85 (pc := 12) (len := 3) (cs := [69]) rfl rfl rfl List.mem_cons_self hS ?_
    refine py_its (pc := 15) (pc1 := 16) (lv1 := [(0, .ref 69), (1, .int a1)]) (st1 := [.ref 69, .ref 85]) 1 (fun _ _ _ _ => rfl) ?_
    refine py_gI (pc := 16) (len := 3) (cs := [69]) rfl rfl rfl List.mem_cons_self hS ?_
    obtain ⟨hi7, h⟩ := cd_n h
    refine py_ai (pc := 19) (len := 1) (cs := [85]) (t := 42) (n := 40) rfl rfl rfl hi7 List.mem_cons_self hS ?_
    refine py_its (pc := 20) (pc1 := 21) (lv1 := [(0, .ref 69), (1, .int a1)]) (st1 := [.int a1, .int (aI hp 85 (gI hp 69 23).toNatClampNeg)]) 1 (fun _ _ _ _ => rfl) ?_
    cases hb8 : px_cmp .ne (aI hp 85 (gI hp 69 23).toNatClampNeg) a1 with
    | true =>
      have h := cd_t hb8 h
      refine py_ic (pc := 21) (len := 3) true rfl hb8 ?_
      refine py_its (pc := 28) (pc1 := 32) (lv1 := [(2, .int (Int32.ofInt 0)), (0, .ref 69), (1, .int a1)]) (st1 := [.ref 69, .ref 69]) 4 (fun _ _ _ _ => rfl) ?_
      refine py_gI (pc := 32) (len := 3) (cs := [69]) rfl rfl rfl List.mem_cons_self hS ?_
      refine py_its (pc := 35) (pc1 := 36) (lv1 := [(2, .int (Int32.ofInt 0)), (0, .ref 69), (1, .int a1)]) (st1 := [.int (Int32.ofInt 0), .int (gI hp 69 23), .ref 69]) 1 (fun _ _ _ _ => rfl) ?_
      obtain ⟨q9, hq10, h⟩ := bd_e h
      have hC11 := (fx_M_flag hS hq10).1
      refine py_st (pc := 36) (mi := mi_M_flag) (N := mm_M_flag) rfl rfl rfl (Nat.le_of_ble_eq_true rfl) (Nat.le_of_ble_eq_true rfl) rfl rfl hC11 ?_
      show px_Y mm_M_comes 39 [(2, .int (Int32.ofInt 0)), (0, .ref 69), (1, .int a1)] [.int q9, .int (gI hp 69 23), .ref 69] hp _ _
      refine py_its (pc := 39) (pc1 := 40) (lv1 := [(2, .int (Int32.ofInt 0)), (0, .ref 69), (1, .int a1)]) (st1 := [.int ((gI hp 69 23) + q9), .ref 69]) 1 (fun _ _ _ _ => rfl) ?_
      have h := sb_e h
      refine py_pI (pc := 40) (len := 3) (cs := [69]) rfl rfl rfl List.mem_cons_self hS rfl rfl rfl rfl ?_
      have hS13 : oS (wF hp 69 23 (.int ((gI hp 69 23) + q9))) := oS_wI (cs := [69]) (ci := 9) rfl List.mem_cons_self hS
      generalize (wF hp 69 23 (.int ((gI hp 69 23) + q9))) = h12 at h hS13 ⊢
      refine py_its (pc := 43) (pc1 := 44) (lv1 := [(2, .int (Int32.ofInt 0)), (0, .ref 69), (1, .int a1)]) (st1 := [.int (Int32.ofInt 0)]) 1 (fun _ _ _ _ => rfl) ?_
      have h := Option.some.inj h
      subst h
      exact py_ir (pc := 44) (len := 1) (ty := .boolean) rfl rfl (by decide) hS13
    | false =>
      have h := cd_f hb8 h
      refine py_ic (pc := 21) (len := 3) false rfl hb8 ?_
      refine py_its (pc := 24) (pc1 := 32) (lv1 := [(2, .int (Int32.ofInt 1)), (0, .ref 69), (1, .int a1)]) (st1 := [.ref 69, .ref 69]) 5 (fun _ _ _ _ => rfl) ?_
      refine py_gI (pc := 32) (len := 3) (cs := [69]) rfl rfl rfl List.mem_cons_self hS ?_
      refine py_its (pc := 35) (pc1 := 36) (lv1 := [(2, .int (Int32.ofInt 1)), (0, .ref 69), (1, .int a1)]) (st1 := [.int (Int32.ofInt 1), .int (gI hp 69 23), .ref 69]) 1 (fun _ _ _ _ => rfl) ?_
      obtain ⟨q14, hq15, h⟩ := bd_e h
      have hC16 := (fx_M_flag hS hq15).1
      refine py_st (pc := 36) (mi := mi_M_flag) (N := mm_M_flag) rfl rfl rfl (Nat.le_of_ble_eq_true rfl) (Nat.le_of_ble_eq_true rfl) rfl rfl hC16 ?_
      show px_Y mm_M_comes 39 [(2, .int (Int32.ofInt 1)), (0, .ref 69), (1, .int a1)] [.int q14, .int (gI hp 69 23), .ref 69] hp _ _
      refine py_its (pc := 39) (pc1 := 40) (lv1 := [(2, .int (Int32.ofInt 1)), (0, .ref 69), (1, .int a1)]) (st1 := [.int ((gI hp 69 23) + q14), .ref 69]) 1 (fun _ _ _ _ => rfl) ?_
      have h := sb_e h
      refine py_pI (pc := 40) (len := 3) (cs := [69]) rfl rfl rfl List.mem_cons_self hS rfl rfl rfl rfl ?_
      have hS18 : oS (wF hp 69 23 (.int ((gI hp 69 23) + q14))) := oS_wI (cs := [69]) (ci := 9) rfl List.mem_cons_self hS
      generalize (wF hp 69 23 (.int ((gI hp 69 23) + q14))) = h17 at h hS18 ⊢
      refine py_its (pc := 43) (pc1 := 44) (lv1 := [(2, .int (Int32.ofInt 1)), (0, .ref 69), (1, .int a1)]) (st1 := [.int (Int32.ofInt 1)]) 1 (fun _ _ _ _ => rfl) ?_
      have h := Option.some.inj h
      subst h
      exact py_ir (pc := 44) (len := 1) (ty := .boolean) rfl rfl (by decide) hS18
/-! M_readsLine -/
noncomputable def fn_M_readsLine  (hp : px_H) : Option (Int32 × px_H) :=
  (fn_M_comes (Int8.ofInt 107).toInt32 hp).bind fun q1 =>
  bif px_cmp .eq q1.1 0 then
    (fn_M_comes (Int8.ofInt 100).toInt32 q1.2).bind fun q6 =>
    bif px_cmp .eq q6.1 0 then
      (fn_M_comes (Int8.ofInt 119).toInt32 q6.2).bind fun q11 =>
      bif px_cmp .eq q11.1 0 then
        (fn_M_comes (Int8.ofInt 115).toInt32 q11.2).bind fun q16 =>
        bif px_cmp .eq q16.1 0 then
          some ((Int32.ofInt 0), q16.2)
        else
          bif px_cmp .ge (gI q16.2 69 23) (gI q16.2 69 24) then
            some ((Int32.ofInt 0), q16.2)
          else
            bif px_inR (gI q16.2 69 23) 40 then
            bif px_cmp .ne (sx_in (aI q16.2 85 (gI q16.2 69 23).toNatClampNeg).toInt64 (Int64.ofInt 49) (Int64.ofInt 54)) 0 then
              bif px_inR (gI q16.2 69 23) 40 then
              sb (wF q16.2 69 23 (.int ((gI q16.2 69 23) + (Int32.ofInt 1)))) fun h25 =>
              (fn_M_comes (Int8.ofInt 98).toInt32 h25).bind fun q27 =>
              bif px_cmp .eq q27.1 0 then
                (fn_M_comes (Int8.ofInt 116).toInt32 q27.2).bind fun q32 =>
                bif px_cmp .eq q32.1 0 then
                  (fn_M_comes (Int8.ofInt 108).toInt32 q32.2).bind fun q37 =>
                  bif px_cmp .eq q37.1 0 then
                    bif px_inR (gI q37.2 69 27) 8 then
                    sb (uI q37.2 86 (gI q37.2 69 27).toNatClampNeg ((aI q16.2 85 (gI q16.2 69 23).toNatClampNeg) - (Int8.ofInt 48).toInt32)) fun h43 =>
                    bif px_inR (gI h43 69 27) 8 then
                    sb (uI h43 87 (gI h43 69 27).toNatClampNeg (Int32.ofInt (-1))) fun h46 =>
                    (fn_M_flag (Int32.ofInt 0) h46).bind fun q48 =>
                    sb (wF h46 69 27 (.int ((gI h46 69 27) + q48))) fun h51 =>
                    some ((Int32.ofInt 0), h51)
                    else none
                    else none
                  else
                    bif px_inR (gI q37.2 69 27) 8 then
                    sb (uI q37.2 86 (gI q37.2 69 27).toNatClampNeg ((aI q16.2 85 (gI q16.2 69 23).toNatClampNeg) - (Int8.ofInt 48).toInt32)) fun h54 =>
                    bif px_inR (gI h54 69 27) 8 then
                    sb (uI h54 87 (gI h54 69 27).toNatClampNeg (Int32.ofInt 2)) fun h57 =>
                    (fn_M_flag (Int32.ofInt 1) h57).bind fun q59 =>
                    sb (wF h57 69 27 (.int ((gI h57 69 27) + q59))) fun h62 =>
                    some ((Int32.ofInt 1), h62)
                    else none
                    else none
                else
                  bif px_inR (gI q32.2 69 27) 8 then
                  sb (uI q32.2 86 (gI q32.2 69 27).toNatClampNeg ((aI q16.2 85 (gI q16.2 69 23).toNatClampNeg) - (Int8.ofInt 48).toInt32)) fun h65 =>
                  bif px_inR (gI h65 69 27) 8 then
                  sb (uI h65 87 (gI h65 69 27).toNatClampNeg (Int32.ofInt 1)) fun h68 =>
                  (fn_M_flag (Int32.ofInt 1) h68).bind fun q70 =>
                  sb (wF h68 69 27 (.int ((gI h68 69 27) + q70))) fun h73 =>
                  some ((Int32.ofInt 1), h73)
                  else none
                  else none
              else
                bif px_inR (gI q27.2 69 27) 8 then
                sb (uI q27.2 86 (gI q27.2 69 27).toNatClampNeg ((aI q16.2 85 (gI q16.2 69 23).toNatClampNeg) - (Int8.ofInt 48).toInt32)) fun h76 =>
                bif px_inR (gI h76 69 27) 8 then
                sb (uI h76 87 (gI h76 69 27).toNatClampNeg (Int32.ofInt 0)) fun h79 =>
                (fn_M_flag (Int32.ofInt 1) h79).bind fun q81 =>
                sb (wF h79 69 27 (.int ((gI h79 69 27) + q81))) fun h84 =>
                some ((Int32.ofInt 1), h84)
                else none
                else none
              else none
            else
              some ((Int32.ofInt 0), q16.2)
            else none
      else
        (fn_M_comes (Int8.ofInt 98).toInt32 q11.2).bind fun q86 =>
        bif px_cmp .eq q86.1 0 then
          (fn_M_comes (Int8.ofInt 116).toInt32 q86.2).bind fun q91 =>
          bif px_cmp .eq q91.1 0 then
            (fn_M_comes (Int8.ofInt 108).toInt32 q91.2).bind fun q96 =>
            bif px_cmp .eq q96.1 0 then
              bif px_inR (gI q96.2 69 27) 8 then
              sb (uI q96.2 86 (gI q96.2 69 27).toNatClampNeg (Int8.ofInt 8).toInt32) fun h102 =>
              bif px_inR (gI h102 69 27) 8 then
              sb (uI h102 87 (gI h102 69 27).toNatClampNeg (Int32.ofInt (-1))) fun h105 =>
              (fn_M_flag (Int32.ofInt 0) h105).bind fun q107 =>
              sb (wF h105 69 27 (.int ((gI h105 69 27) + q107))) fun h110 =>
              some ((Int32.ofInt 0), h110)
              else none
              else none
            else
              bif px_inR (gI q96.2 69 27) 8 then
              sb (uI q96.2 86 (gI q96.2 69 27).toNatClampNeg (Int8.ofInt 8).toInt32) fun h113 =>
              bif px_inR (gI h113 69 27) 8 then
              sb (uI h113 87 (gI h113 69 27).toNatClampNeg (Int32.ofInt 2)) fun h116 =>
              (fn_M_flag (Int32.ofInt 1) h116).bind fun q118 =>
              sb (wF h116 69 27 (.int ((gI h116 69 27) + q118))) fun h121 =>
              some ((Int32.ofInt 1), h121)
              else none
              else none
          else
            bif px_inR (gI q91.2 69 27) 8 then
            sb (uI q91.2 86 (gI q91.2 69 27).toNatClampNeg (Int8.ofInt 8).toInt32) fun h124 =>
            bif px_inR (gI h124 69 27) 8 then
            sb (uI h124 87 (gI h124 69 27).toNatClampNeg (Int32.ofInt 1)) fun h127 =>
            (fn_M_flag (Int32.ofInt 1) h127).bind fun q129 =>
            sb (wF h127 69 27 (.int ((gI h127 69 27) + q129))) fun h132 =>
            some ((Int32.ofInt 1), h132)
            else none
            else none
        else
          bif px_inR (gI q86.2 69 27) 8 then
          sb (uI q86.2 86 (gI q86.2 69 27).toNatClampNeg (Int8.ofInt 8).toInt32) fun h135 =>
          bif px_inR (gI h135 69 27) 8 then
          sb (uI h135 87 (gI h135 69 27).toNatClampNeg (Int32.ofInt 0)) fun h138 =>
          (fn_M_flag (Int32.ofInt 1) h138).bind fun q140 =>
          sb (wF h138 69 27 (.int ((gI h138 69 27) + q140))) fun h143 =>
          some ((Int32.ofInt 1), h143)
          else none
          else none
    else
      (fn_M_comes (Int8.ofInt 98).toInt32 q6.2).bind fun q145 =>
      bif px_cmp .eq q145.1 0 then
        (fn_M_comes (Int8.ofInt 116).toInt32 q145.2).bind fun q150 =>
        bif px_cmp .eq q150.1 0 then
          (fn_M_comes (Int8.ofInt 108).toInt32 q150.2).bind fun q155 =>
          bif px_cmp .eq q155.1 0 then
            bif px_inR (gI q155.2 69 27) 8 then
            sb (uI q155.2 86 (gI q155.2 69 27).toNatClampNeg (Int8.ofInt 7).toInt32) fun h161 =>
            bif px_inR (gI h161 69 27) 8 then
            sb (uI h161 87 (gI h161 69 27).toNatClampNeg (Int32.ofInt (-1))) fun h164 =>
            (fn_M_flag (Int32.ofInt 0) h164).bind fun q166 =>
            sb (wF h164 69 27 (.int ((gI h164 69 27) + q166))) fun h169 =>
            some ((Int32.ofInt 0), h169)
            else none
            else none
          else
            bif px_inR (gI q155.2 69 27) 8 then
            sb (uI q155.2 86 (gI q155.2 69 27).toNatClampNeg (Int8.ofInt 7).toInt32) fun h172 =>
            bif px_inR (gI h172 69 27) 8 then
            sb (uI h172 87 (gI h172 69 27).toNatClampNeg (Int32.ofInt 2)) fun h175 =>
            (fn_M_flag (Int32.ofInt 1) h175).bind fun q177 =>
            sb (wF h175 69 27 (.int ((gI h175 69 27) + q177))) fun h180 =>
            some ((Int32.ofInt 1), h180)
            else none
            else none
        else
          bif px_inR (gI q150.2 69 27) 8 then
          sb (uI q150.2 86 (gI q150.2 69 27).toNatClampNeg (Int8.ofInt 7).toInt32) fun h183 =>
          bif px_inR (gI h183 69 27) 8 then
          sb (uI h183 87 (gI h183 69 27).toNatClampNeg (Int32.ofInt 1)) fun h186 =>
          (fn_M_flag (Int32.ofInt 1) h186).bind fun q188 =>
          sb (wF h186 69 27 (.int ((gI h186 69 27) + q188))) fun h191 =>
          some ((Int32.ofInt 1), h191)
          else none
          else none
      else
        bif px_inR (gI q145.2 69 27) 8 then
        sb (uI q145.2 86 (gI q145.2 69 27).toNatClampNeg (Int8.ofInt 7).toInt32) fun h194 =>
        bif px_inR (gI h194 69 27) 8 then
        sb (uI h194 87 (gI h194 69 27).toNatClampNeg (Int32.ofInt 0)) fun h197 =>
        (fn_M_flag (Int32.ofInt 1) h197).bind fun q199 =>
        sb (wF h197 69 27 (.int ((gI h197 69 27) + q199))) fun h202 =>
        some ((Int32.ofInt 1), h202)
        else none
        else none
  else
    (fn_M_comes (Int8.ofInt 98).toInt32 q1.2).bind fun q204 =>
    bif px_cmp .eq q204.1 0 then
      (fn_M_comes (Int8.ofInt 116).toInt32 q204.2).bind fun q209 =>
      bif px_cmp .eq q209.1 0 then
        (fn_M_comes (Int8.ofInt 108).toInt32 q209.2).bind fun q214 =>
        bif px_cmp .eq q214.1 0 then
          bif px_inR (gI q214.2 69 27) 8 then
          sb (uI q214.2 86 (gI q214.2 69 27).toNatClampNeg (Int32.ofInt 0)) fun h220 =>
          bif px_inR (gI h220 69 27) 8 then
          sb (uI h220 87 (gI h220 69 27).toNatClampNeg (Int32.ofInt (-1))) fun h223 =>
          (fn_M_flag (Int32.ofInt 0) h223).bind fun q225 =>
          sb (wF h223 69 27 (.int ((gI h223 69 27) + q225))) fun h228 =>
          some ((Int32.ofInt 0), h228)
          else none
          else none
        else
          bif px_inR (gI q214.2 69 27) 8 then
          sb (uI q214.2 86 (gI q214.2 69 27).toNatClampNeg (Int32.ofInt 0)) fun h231 =>
          bif px_inR (gI h231 69 27) 8 then
          sb (uI h231 87 (gI h231 69 27).toNatClampNeg (Int32.ofInt 2)) fun h234 =>
          (fn_M_flag (Int32.ofInt 1) h234).bind fun q236 =>
          sb (wF h234 69 27 (.int ((gI h234 69 27) + q236))) fun h239 =>
          some ((Int32.ofInt 1), h239)
          else none
          else none
      else
        bif px_inR (gI q209.2 69 27) 8 then
        sb (uI q209.2 86 (gI q209.2 69 27).toNatClampNeg (Int32.ofInt 0)) fun h242 =>
        bif px_inR (gI h242 69 27) 8 then
        sb (uI h242 87 (gI h242 69 27).toNatClampNeg (Int32.ofInt 1)) fun h245 =>
        (fn_M_flag (Int32.ofInt 1) h245).bind fun q247 =>
        sb (wF h245 69 27 (.int ((gI h245 69 27) + q247))) fun h250 =>
        some ((Int32.ofInt 1), h250)
        else none
        else none
    else
      bif px_inR (gI q204.2 69 27) 8 then
      sb (uI q204.2 86 (gI q204.2 69 27).toNatClampNeg (Int32.ofInt 0)) fun h253 =>
      bif px_inR (gI h253 69 27) 8 then
      sb (uI h253 87 (gI h253 69 27).toNatClampNeg (Int32.ofInt 0)) fun h256 =>
      (fn_M_flag (Int32.ofInt 1) h256).bind fun q258 =>
      sb (wF h256 69 27 (.int ((gI h256 69 27) + q258))) fun h261 =>
      some ((Int32.ofInt 1), h261)
      else none
      else none
theorem fx_M_readsLine  {hp : px_H} {res : Int32 × px_H} (hS : oS hp) (h : fn_M_readsLine hp = some res) : px_C nm_T nm_P mi_M_readsLine [.ref 69] hp (some (.int res.1)) res.2 ∧ oS res.2 := by
  unfold fn_M_readsLine at h
  refine py_C (M := mm_M_readsLine) rfl (Nat.le_of_ble_eq_true rfl) ?_
  show px_Y mm_M_readsLine 0 [(0, .ref 69)] [] hp _ _
  refine py_its (pc := 0) (pc1 := 3) (lv1 := [(0, .ref 69)]) (st1 := [.int (Int8.ofInt 107).toInt32, .ref 69]) 2 (fun _ _ _ _ => rfl) ?_
  obtain ⟨q1, hq2, h⟩ := bd_e h
  obtain ⟨hC3, hS4⟩ := fx_M_comes hS hq2
  refine py_vi (pc := 3) (mi := mi_M_comes) (cs := [69]) (N := mm_M_comes) rfl rfl rfl rfl List.mem_cons_self hS rfl (Nat.le_of_ble_eq_true rfl) (Nat.le_of_ble_eq_true rfl) rfl rfl hC3 ?_
  show px_Y mm_M_readsLine 6 [(0, .ref 69)] [.int q1.1] q1.2 _ _
  cases hb5 : px_cmp .eq q1.1 0 with
  | true =>
    have h := cd_t hb5 h
    refine py_if (pc := 6) (len := 3) true rfl hb5 ?_
    refine py_its (pc := 13) (pc1 := 16) (lv1 := [(0, .ref 69)]) (st1 := [.int (Int8.ofInt 100).toInt32, .ref 69]) 2 (fun _ _ _ _ => rfl) ?_
    obtain ⟨q6, hq7, h⟩ := bd_e h
    obtain ⟨hC8, hS9⟩ := fx_M_comes hS4 hq7
    refine py_vi (pc := 16) (mi := mi_M_comes) (cs := [69]) (N := mm_M_comes) rfl rfl rfl rfl List.mem_cons_self hS4 rfl (Nat.le_of_ble_eq_true rfl) (Nat.le_of_ble_eq_true rfl) rfl rfl hC8 ?_
    show px_Y mm_M_readsLine 19 [(0, .ref 69)] [.int q6.1] q6.2 _ _
    cases hb10 : px_cmp .eq q6.1 0 with
    | true =>
      have h := cd_t hb10 h
      refine py_if (pc := 19) (len := 3) true rfl hb10 ?_
      refine py_its (pc := 27) (pc1 := 30) (lv1 := [(0, .ref 69)]) (st1 := [.int (Int8.ofInt 119).toInt32, .ref 69]) 2 (fun _ _ _ _ => rfl) ?_
      obtain ⟨q11, hq12, h⟩ := bd_e h
      obtain ⟨hC13, hS14⟩ := fx_M_comes hS9 hq12
      refine py_vi (pc := 30) (mi := mi_M_comes) (cs := [69]) (N := mm_M_comes) rfl rfl rfl rfl List.mem_cons_self hS9 rfl (Nat.le_of_ble_eq_true rfl) (Nat.le_of_ble_eq_true rfl) rfl rfl hC13 ?_
      show px_Y mm_M_readsLine 33 [(0, .ref 69)] [.int q11.1] q11.2 _ _
      cases hb15 : px_cmp .eq q11.1 0 with
      | true =>
        have h := cd_t hb15 h
        refine py_if (pc := 33) (len := 3) true rfl hb15 ?_
        refine py_its (pc := 41) (pc1 := 44) (lv1 := [(1, .int (Int32.ofInt (-1))), (0, .ref 69)]) (st1 := [.int (Int32.ofInt (-1))]) 3 (fun _ _ _ _ => rfl) ?_
        refine py_if (pc := 44) (len := 3) false rfl (by decide) ?_
        refine py_its (pc := 47) (pc1 := 50) (lv1 := [(1, .int (Int32.ofInt (-1))), (0, .ref 69)]) (st1 := [.int (Int8.ofInt 115).toInt32, .ref 69]) 2 (fun _ _ _ _ => rfl) ?_
        obtain ⟨q16, hq17, h⟩ := bd_e h
        obtain ⟨hC18, hS19⟩ := fx_M_comes hS14 hq17
        refine py_vi (pc := 50) (mi := mi_M_comes) (cs := [69]) (N := mm_M_comes) rfl rfl rfl rfl List.mem_cons_self hS14 rfl (Nat.le_of_ble_eq_true rfl) (Nat.le_of_ble_eq_true rfl) rfl rfl hC18 ?_
        show px_Y mm_M_readsLine 53 [(1, .int (Int32.ofInt (-1))), (0, .ref 69)] [.int q16.1] q16.2 _ _
        cases hb20 : px_cmp .eq q16.1 0 with
        | true =>
          have h := cd_t hb20 h
          refine py_if (pc := 53) (len := 3) true rfl hb20 ?_
          refine py_its (pc := 89) (pc1 := 90) (lv1 := [(1, .int (Int32.ofInt (-1))), (0, .ref 69)]) (st1 := [.int (Int32.ofInt 0)]) 1 (fun _ _ _ _ => rfl) ?_
          have h := Option.some.inj h
          subst h
          exact py_ir (pc := 90) (len := 1) (ty := .boolean) rfl rfl (by decide) hS19
        | false =>
          have h := cd_f hb20 h
          refine py_if (pc := 53) (len := 3) false rfl hb20 ?_
          refine py_its (pc := 56) (pc1 := 57) (lv1 := [(1, .int (Int32.ofInt (-1))), (0, .ref 69)]) (st1 := [.ref 69]) 1 (fun _ _ _ _ => rfl) ?_
          refine py_gI (pc := 57) (len := 3) (cs := [69]) rfl rfl rfl List.mem_cons_self hS19 ?_
          refine py_its (pc := 60) (pc1 := 61) (lv1 := [(1, .int (Int32.ofInt (-1))), (0, .ref 69)]) (st1 := [.ref 69, .int (gI q16.2 69 23)]) 1 (fun _ _ _ _ => rfl) ?_
          refine py_gI (pc := 61) (len := 3) (cs := [69]) rfl rfl rfl List.mem_cons_self hS19 ?_
          cases hb21 : px_cmp .ge (gI q16.2 69 23) (gI q16.2 69 24) with
          | true =>
            have h := cd_t hb21 h
            refine py_ic (pc := 64) (len := 3) true rfl hb21 ?_
            refine py_its (pc := 89) (pc1 := 90) (lv1 := [(1, .int (Int32.ofInt (-1))), (0, .ref 69)]) (st1 := [.int (Int32.ofInt 0)]) 1 (fun _ _ _ _ => rfl) ?_
            have h := Option.some.inj h
            subst h
            exact py_ir (pc := 90) (len := 1) (ty := .boolean) rfl rfl (by decide) hS19
          | false =>
            have h := cd_f hb21 h
            refine py_ic (pc := 64) (len := 3) false rfl hb21 ?_
            refine py_its (pc := 67) (pc1 := 68) (lv1 := [(1, .int (Int32.ofInt (-1))), (0, .ref 69)]) (st1 := [.ref 69]) 1 (fun _ _ _ _ => rfl) ?_
            refine py_g1 85 (pc := 68) (len := 3) (cs := [69]) rfl rfl rfl List.mem_cons_self hS19 ?_
            refine py_its (pc := 71) (pc1 := 72) (lv1 := [(1, .int (Int32.ofInt (-1))), (0, .ref 69)]) (st1 := [.ref 69, .ref 85]) 1 (fun _ _ _ _ => rfl) ?_
            refine py_gI (pc := 72) (len := 3) (cs := [69]) rfl rfl rfl List.mem_cons_self hS19 ?_
            obtain ⟨hi22, h⟩ := cd_n h
            refine py_ai (pc := 75) (len := 1) (cs := [85]) (t := 42) (n := 40) rfl rfl rfl hi22 List.mem_cons_self hS19 ?_
            refine py_its (pc := 76) (pc1 := 83) (lv1 := [(1, .int (Int32.ofInt (-1))), (0, .ref 69)]) (st1 := [.long (Int64.ofInt 54), .long (Int64.ofInt 49), .long (aI q16.2 85 (gI q16.2 69 23).toNatClampNeg).toInt64]) 3 (fun _ _ _ _ => rfl) ?_
            refine py_st (pc := 83) (mi := mi_M_in) (N := mm_M_in) rfl rfl rfl (Nat.le_of_ble_eq_true rfl) (Nat.le_of_ble_eq_true rfl) rfl rfl (sx_in_C (aI q16.2 85 (gI q16.2 69 23).toNatClampNeg).toInt64 (Int64.ofInt 49) (Int64.ofInt 54) q16.2) ?_
            show px_Y mm_M_readsLine 86 [(1, .int (Int32.ofInt (-1))), (0, .ref 69)] [.int (sx_in (aI q16.2 85 (gI q16.2 69 23).toNatClampNeg).toInt64 (Int64.ofInt 49) (Int64.ofInt 54))] q16.2 _ _
            cases hb23 : px_cmp .ne (sx_in (aI q16.2 85 (gI q16.2 69 23).toNatClampNeg).toInt64 (Int64.ofInt 49) (Int64.ofInt 54)) 0 with
            | true =>
              have h := cd_t hb23 h
              refine py_if (pc := 86) (len := 3) true rfl hb23 ?_
              refine py_its (pc := 91) (pc1 := 92) (lv1 := [(1, .int (Int32.ofInt (-1))), (0, .ref 69)]) (st1 := [.ref 69]) 1 (fun _ _ _ _ => rfl) ?_
              refine py_g1 85 (pc := 92) (len := 3) (cs := [69]) rfl rfl rfl List.mem_cons_self hS19 ?_
              refine py_its (pc := 95) (pc1 := 96) (lv1 := [(1, .int (Int32.ofInt (-1))), (0, .ref 69)]) (st1 := [.ref 69, .ref 85]) 1 (fun _ _ _ _ => rfl) ?_
              refine py_gI (pc := 96) (len := 3) (cs := [69]) rfl rfl rfl List.mem_cons_self hS19 ?_
              obtain ⟨hi24, h⟩ := cd_n h
              refine py_ai (pc := 99) (len := 1) (cs := [85]) (t := 42) (n := 40) rfl rfl rfl hi24 List.mem_cons_self hS19 ?_
              refine py_its (pc := 100) (pc1 := 106) (lv1 := [(1, .int ((aI q16.2 85 (gI q16.2 69 23).toNatClampNeg) - (Int8.ofInt 48).toInt32)), (0, .ref 69)]) (st1 := [.ref 69, .ref 69]) 5 (fun _ _ _ _ => rfl) ?_
              refine py_gI (pc := 106) (len := 3) (cs := [69]) rfl rfl rfl List.mem_cons_self hS19 ?_
              refine py_its (pc := 109) (pc1 := 111) (lv1 := [(1, .int ((aI q16.2 85 (gI q16.2 69 23).toNatClampNeg) - (Int8.ofInt 48).toInt32)), (0, .ref 69)]) (st1 := [.int ((gI q16.2 69 23) + (Int32.ofInt 1)), .ref 69]) 2 (fun _ _ _ _ => rfl) ?_
              have h := sb_e h
              refine py_pI (pc := 111) (len := 3) (cs := [69]) rfl rfl rfl List.mem_cons_self hS19 rfl rfl rfl rfl ?_
              have hS26 : oS (wF q16.2 69 23 (.int ((gI q16.2 69 23) + (Int32.ofInt 1)))) := oS_wI (cs := [69]) (ci := 9) rfl List.mem_cons_self hS19
              generalize (wF q16.2 69 23 (.int ((gI q16.2 69 23) + (Int32.ofInt 1)))) = h25 at h hS26 ⊢
              refine py_its (pc := 114) (pc1 := 117) (lv1 := [(1, .int ((aI q16.2 85 (gI q16.2 69 23).toNatClampNeg) - (Int8.ofInt 48).toInt32)), (0, .ref 69)]) (st1 := [.int (Int8.ofInt 98).toInt32, .ref 69]) 2 (fun _ _ _ _ => rfl) ?_
              obtain ⟨q27, hq28, h⟩ := bd_e h
              obtain ⟨hC29, hS30⟩ := fx_M_comes hS26 hq28
              refine py_vi (pc := 117) (mi := mi_M_comes) (cs := [69]) (N := mm_M_comes) rfl rfl rfl rfl List.mem_cons_self hS26 rfl (Nat.le_of_ble_eq_true rfl) (Nat.le_of_ble_eq_true rfl) rfl rfl hC29 ?_
              show px_Y mm_M_readsLine 120 [(1, .int ((aI q16.2 85 (gI q16.2 69 23).toNatClampNeg) - (Int8.ofInt 48).toInt32)), (0, .ref 69)] [.int q27.1] q27.2 _ _
              cases hb31 : px_cmp .eq q27.1 0 with
              | true =>
                have h := cd_t hb31 h
                refine py_if (pc := 120) (len := 3) true rfl hb31 ?_
                refine py_its (pc := 127) (pc1 := 130) (lv1 := [(1, .int ((aI q16.2 85 (gI q16.2 69 23).toNatClampNeg) - (Int8.ofInt 48).toInt32)), (0, .ref 69)]) (st1 := [.int (Int8.ofInt 116).toInt32, .ref 69]) 2 (fun _ _ _ _ => rfl) ?_
                obtain ⟨q32, hq33, h⟩ := bd_e h
                obtain ⟨hC34, hS35⟩ := fx_M_comes hS30 hq33
                refine py_vi (pc := 130) (mi := mi_M_comes) (cs := [69]) (N := mm_M_comes) rfl rfl rfl rfl List.mem_cons_self hS30 rfl (Nat.le_of_ble_eq_true rfl) (Nat.le_of_ble_eq_true rfl) rfl rfl hC34 ?_
                show px_Y mm_M_readsLine 133 [(1, .int ((aI q16.2 85 (gI q16.2 69 23).toNatClampNeg) - (Int8.ofInt 48).toInt32)), (0, .ref 69)] [.int q32.1] q32.2 _ _
                cases hb36 : px_cmp .eq q32.1 0 with
                | true =>
                  have h := cd_t hb36 h
                  refine py_if (pc := 133) (len := 3) true rfl hb36 ?_
                  refine py_its (pc := 140) (pc1 := 143) (lv1 := [(1, .int ((aI q16.2 85 (gI q16.2 69 23).toNatClampNeg) - (Int8.ofInt 48).toInt32)), (0, .ref 69)]) (st1 := [.int (Int8.ofInt 108).toInt32, .ref 69]) 2 (fun _ _ _ _ => rfl) ?_
                  obtain ⟨q37, hq38, h⟩ := bd_e h
                  obtain ⟨hC39, hS40⟩ := fx_M_comes hS35 hq38
                  refine py_vi (pc := 143) (mi := mi_M_comes) (cs := [69]) (N := mm_M_comes) rfl rfl rfl rfl List.mem_cons_self hS35 rfl (Nat.le_of_ble_eq_true rfl) (Nat.le_of_ble_eq_true rfl) rfl rfl hC39 ?_
                  show px_Y mm_M_readsLine 146 [(1, .int ((aI q16.2 85 (gI q16.2 69 23).toNatClampNeg) - (Int8.ofInt 48).toInt32)), (0, .ref 69)] [.int q37.1] q37.2 _ _
                  cases hb41 : px_cmp .eq q37.1 0 with
                  | true =>
                    have h := cd_t hb41 h
                    refine py_if (pc := 146) (len := 3) true rfl hb41 ?_
                    refine py_its (pc := 153) (pc1 := 156) (lv1 := [(2, .int (Int32.ofInt (-1))), (1, .int ((aI q16.2 85 (gI q16.2 69 23).toNatClampNeg) - (Int8.ofInt 48).toInt32)), (0, .ref 69)]) (st1 := [.ref 69]) 3 (fun _ _ _ _ => rfl) ?_
                    refine py_g1 86 (pc := 156) (len := 3) (cs := [69]) rfl rfl rfl List.mem_cons_self hS40 ?_
                    refine py_its (pc := 159) (pc1 := 160) (lv1 := [(2, .int (Int32.ofInt (-1))), (1, .int ((aI q16.2 85 (gI q16.2 69 23).toNatClampNeg) - (Int8.ofInt 48).toInt32)), (0, .ref 69)]) (st1 := [.ref 69, .ref 86]) 1 (fun _ _ _ _ => rfl) ?_
                    refine py_gI (pc := 160) (len := 3) (cs := [69]) rfl rfl rfl List.mem_cons_self hS40 ?_
                    refine py_its (pc := 163) (pc1 := 164) (lv1 := [(2, .int (Int32.ofInt (-1))), (1, .int ((aI q16.2 85 (gI q16.2 69 23).toNatClampNeg) - (Int8.ofInt 48).toInt32)), (0, .ref 69)]) (st1 := [.int ((aI q16.2 85 (gI q16.2 69 23).toNatClampNeg) - (Int8.ofInt 48).toInt32), .int (gI q37.2 69 27), .ref 86]) 1 (fun _ _ _ _ => rfl) ?_
                    obtain ⟨hi42, h⟩ := cd_n h
                    have h := sb_e h
                    refine py_si (pc := 164) (len := 1) (cs := [86]) (t := 43) (n := 8) rfl rfl rfl hi42 List.mem_cons_self hS40 ?_
                    have hS44 : oS (uI q37.2 86 (gI q37.2 69 27).toNatClampNeg ((aI q16.2 85 (gI q16.2 69 23).toNatClampNeg) - (Int8.ofInt 48).toInt32)) := oS_uI (cs := [86]) (t := 43) (n := 8) rfl List.mem_cons_self hS40
                    generalize (uI q37.2 86 (gI q37.2 69 27).toNatClampNeg ((aI q16.2 85 (gI q16.2 69 23).toNatClampNeg) - (Int8.ofInt 48).toInt32)) = h43 at h hS44 ⊢
                    refine py_its (pc := 165) (pc1 := 166) (lv1 := [(2, .int (Int32.ofInt (-1))), (1, .int ((aI q16.2 85 (gI q16.2 69 23).toNatClampNeg) - (Int8.ofInt 48).toInt32)), (0, .ref 69)]) (st1 := [.ref 69]) 1 (fun _ _ _ _ => rfl) ?_
                    refine py_g1 87 (pc := 166) (len := 3) (cs := [69]) rfl rfl rfl List.mem_cons_self hS44 ?_
                    refine py_its (pc := 169) (pc1 := 170) (lv1 := [(2, .int (Int32.ofInt (-1))), (1, .int ((aI q16.2 85 (gI q16.2 69 23).toNatClampNeg) - (Int8.ofInt 48).toInt32)), (0, .ref 69)]) (st1 := [.ref 69, .ref 87]) 1 (fun _ _ _ _ => rfl) ?_
                    refine py_gI (pc := 170) (len := 3) (cs := [69]) rfl rfl rfl List.mem_cons_self hS44 ?_
                    refine py_its (pc := 173) (pc1 := 174) (lv1 := [(2, .int (Int32.ofInt (-1))), (1, .int ((aI q16.2 85 (gI q16.2 69 23).toNatClampNeg) - (Int8.ofInt 48).toInt32)), (0, .ref 69)]) (st1 := [.int (Int32.ofInt (-1)), .int (gI h43 69 27), .ref 87]) 1 (fun _ _ _ _ => rfl) ?_
                    obtain ⟨hi45, h⟩ := cd_n h
                    have h := sb_e h
                    refine py_si (pc := 174) (len := 1) (cs := [87]) (t := 44) (n := 8) rfl rfl rfl hi45 List.mem_cons_self hS44 ?_
                    have hS47 : oS (uI h43 87 (gI h43 69 27).toNatClampNeg (Int32.ofInt (-1))) := oS_uI (cs := [87]) (t := 44) (n := 8) rfl List.mem_cons_self hS44
                    generalize (uI h43 87 (gI h43 69 27).toNatClampNeg (Int32.ofInt (-1))) = h46 at h hS47 ⊢
                    refine py_its (pc := 175) (pc1 := 177) (lv1 := [(2, .int (Int32.ofInt (-1))), (1, .int ((aI q16.2 85 (gI q16.2 69 23).toNatClampNeg) - (Int8.ofInt 48).toInt32)), (0, .ref 69)]) (st1 := [.ref 69, .ref 69]) 2 (fun _ _ _ _ => rfl) ?_
                    refine py_gI (pc := 177) (len := 3) (cs := [69]) rfl rfl rfl List.mem_cons_self hS47 ?_
                    refine py_its (pc := 180) (pc1 := 181) (lv1 := [(2, .int (Int32.ofInt (-1))), (1, .int ((aI q16.2 85 (gI q16.2 69 23).toNatClampNeg) - (Int8.ofInt 48).toInt32)), (0, .ref 69)]) (st1 := [.int (Int32.ofInt (-1)), .int (gI h46 69 27), .ref 69]) 1 (fun _ _ _ _ => rfl) ?_
                    refine py_if (pc := 181) (len := 3) true rfl (by decide) ?_
                    refine py_its (pc := 188) (pc1 := 189) (lv1 := [(2, .int (Int32.ofInt (-1))), (1, .int ((aI q16.2 85 (gI q16.2 69 23).toNatClampNeg) - (Int8.ofInt 48).toInt32)), (0, .ref 69)]) (st1 := [.int (Int32.ofInt 0), .int (gI h46 69 27), .ref 69]) 1 (fun _ _ _ _ => rfl) ?_
                    obtain ⟨q48, hq49, h⟩ := bd_e h
                    have hC50 := (fx_M_flag hS47 hq49).1
                    refine py_st (pc := 189) (mi := mi_M_flag) (N := mm_M_flag) rfl rfl rfl (Nat.le_of_ble_eq_true rfl) (Nat.le_of_ble_eq_true rfl) rfl rfl hC50 ?_
                    show px_Y mm_M_readsLine 192 [(2, .int (Int32.ofInt (-1))), (1, .int ((aI q16.2 85 (gI q16.2 69 23).toNatClampNeg) - (Int8.ofInt 48).toInt32)), (0, .ref 69)] [.int q48, .int (gI h46 69 27), .ref 69] h46 _ _
                    refine py_its (pc := 192) (pc1 := 193) (lv1 := [(2, .int (Int32.ofInt (-1))), (1, .int ((aI q16.2 85 (gI q16.2 69 23).toNatClampNeg) - (Int8.ofInt 48).toInt32)), (0, .ref 69)]) (st1 := [.int ((gI h46 69 27) + q48), .ref 69]) 1 (fun _ _ _ _ => rfl) ?_
                    have h := sb_e h
                    refine py_pI (pc := 193) (len := 3) (cs := [69]) rfl rfl rfl List.mem_cons_self hS47 rfl rfl rfl rfl ?_
                    have hS52 : oS (wF h46 69 27 (.int ((gI h46 69 27) + q48))) := oS_wI (cs := [69]) (ci := 9) rfl List.mem_cons_self hS47
                    generalize (wF h46 69 27 (.int ((gI h46 69 27) + q48))) = h51 at h hS52 ⊢
                    refine py_its (pc := 196) (pc1 := 197) (lv1 := [(2, .int (Int32.ofInt (-1))), (1, .int ((aI q16.2 85 (gI q16.2 69 23).toNatClampNeg) - (Int8.ofInt 48).toInt32)), (0, .ref 69)]) (st1 := [.int (Int32.ofInt (-1))]) 1 (fun _ _ _ _ => rfl) ?_
                    refine py_if (pc := 197) (len := 3) true rfl (by decide) ?_
                    refine py_its (pc := 204) (pc1 := 205) (lv1 := [(2, .int (Int32.ofInt (-1))), (1, .int ((aI q16.2 85 (gI q16.2 69 23).toNatClampNeg) - (Int8.ofInt 48).toInt32)), (0, .ref 69)]) (st1 := [.int (Int32.ofInt 0)]) 1 (fun _ _ _ _ => rfl) ?_
                    have h := Option.some.inj h
                    subst h
                    exact py_ir (pc := 205) (len := 1) (ty := .boolean) rfl rfl (by decide) hS52
                  | false =>
                    have h := cd_f hb41 h
                    refine py_if (pc := 146) (len := 3) false rfl hb41 ?_
                    refine py_its (pc := 149) (pc1 := 156) (lv1 := [(2, .int (Int32.ofInt 2)), (1, .int ((aI q16.2 85 (gI q16.2 69 23).toNatClampNeg) - (Int8.ofInt 48).toInt32)), (0, .ref 69)]) (st1 := [.ref 69]) 4 (fun _ _ _ _ => rfl) ?_
                    refine py_g1 86 (pc := 156) (len := 3) (cs := [69]) rfl rfl rfl List.mem_cons_self hS40 ?_
                    refine py_its (pc := 159) (pc1 := 160) (lv1 := [(2, .int (Int32.ofInt 2)), (1, .int ((aI q16.2 85 (gI q16.2 69 23).toNatClampNeg) - (Int8.ofInt 48).toInt32)), (0, .ref 69)]) (st1 := [.ref 69, .ref 86]) 1 (fun _ _ _ _ => rfl) ?_
                    refine py_gI (pc := 160) (len := 3) (cs := [69]) rfl rfl rfl List.mem_cons_self hS40 ?_
                    refine py_its (pc := 163) (pc1 := 164) (lv1 := [(2, .int (Int32.ofInt 2)), (1, .int ((aI q16.2 85 (gI q16.2 69 23).toNatClampNeg) - (Int8.ofInt 48).toInt32)), (0, .ref 69)]) (st1 := [.int ((aI q16.2 85 (gI q16.2 69 23).toNatClampNeg) - (Int8.ofInt 48).toInt32), .int (gI q37.2 69 27), .ref 86]) 1 (fun _ _ _ _ => rfl) ?_
                    obtain ⟨hi53, h⟩ := cd_n h
                    have h := sb_e h
                    refine py_si (pc := 164) (len := 1) (cs := [86]) (t := 43) (n := 8) rfl rfl rfl hi53 List.mem_cons_self hS40 ?_
                    have hS55 : oS (uI q37.2 86 (gI q37.2 69 27).toNatClampNeg ((aI q16.2 85 (gI q16.2 69 23).toNatClampNeg) - (Int8.ofInt 48).toInt32)) := oS_uI (cs := [86]) (t := 43) (n := 8) rfl List.mem_cons_self hS40
                    generalize (uI q37.2 86 (gI q37.2 69 27).toNatClampNeg ((aI q16.2 85 (gI q16.2 69 23).toNatClampNeg) - (Int8.ofInt 48).toInt32)) = h54 at h hS55 ⊢
                    refine py_its (pc := 165) (pc1 := 166) (lv1 := [(2, .int (Int32.ofInt 2)), (1, .int ((aI q16.2 85 (gI q16.2 69 23).toNatClampNeg) - (Int8.ofInt 48).toInt32)), (0, .ref 69)]) (st1 := [.ref 69]) 1 (fun _ _ _ _ => rfl) ?_
                    refine py_g1 87 (pc := 166) (len := 3) (cs := [69]) rfl rfl rfl List.mem_cons_self hS55 ?_
                    refine py_its (pc := 169) (pc1 := 170) (lv1 := [(2, .int (Int32.ofInt 2)), (1, .int ((aI q16.2 85 (gI q16.2 69 23).toNatClampNeg) - (Int8.ofInt 48).toInt32)), (0, .ref 69)]) (st1 := [.ref 69, .ref 87]) 1 (fun _ _ _ _ => rfl) ?_
                    refine py_gI (pc := 170) (len := 3) (cs := [69]) rfl rfl rfl List.mem_cons_self hS55 ?_
                    refine py_its (pc := 173) (pc1 := 174) (lv1 := [(2, .int (Int32.ofInt 2)), (1, .int ((aI q16.2 85 (gI q16.2 69 23).toNatClampNeg) - (Int8.ofInt 48).toInt32)), (0, .ref 69)]) (st1 := [.int (Int32.ofInt 2), .int (gI h54 69 27), .ref 87]) 1 (fun _ _ _ _ => rfl) ?_
                    obtain ⟨hi56, h⟩ := cd_n h
                    have h := sb_e h
                    refine py_si (pc := 174) (len := 1) (cs := [87]) (t := 44) (n := 8) rfl rfl rfl hi56 List.mem_cons_self hS55 ?_
                    have hS58 : oS (uI h54 87 (gI h54 69 27).toNatClampNeg (Int32.ofInt 2)) := oS_uI (cs := [87]) (t := 44) (n := 8) rfl List.mem_cons_self hS55
                    generalize (uI h54 87 (gI h54 69 27).toNatClampNeg (Int32.ofInt 2)) = h57 at h hS58 ⊢
                    refine py_its (pc := 175) (pc1 := 177) (lv1 := [(2, .int (Int32.ofInt 2)), (1, .int ((aI q16.2 85 (gI q16.2 69 23).toNatClampNeg) - (Int8.ofInt 48).toInt32)), (0, .ref 69)]) (st1 := [.ref 69, .ref 69]) 2 (fun _ _ _ _ => rfl) ?_
                    refine py_gI (pc := 177) (len := 3) (cs := [69]) rfl rfl rfl List.mem_cons_self hS58 ?_
                    refine py_its (pc := 180) (pc1 := 181) (lv1 := [(2, .int (Int32.ofInt 2)), (1, .int ((aI q16.2 85 (gI q16.2 69 23).toNatClampNeg) - (Int8.ofInt 48).toInt32)), (0, .ref 69)]) (st1 := [.int (Int32.ofInt 2), .int (gI h57 69 27), .ref 69]) 1 (fun _ _ _ _ => rfl) ?_
                    refine py_if (pc := 181) (len := 3) false rfl (by decide) ?_
                    refine py_its (pc := 184) (pc1 := 189) (lv1 := [(2, .int (Int32.ofInt 2)), (1, .int ((aI q16.2 85 (gI q16.2 69 23).toNatClampNeg) - (Int8.ofInt 48).toInt32)), (0, .ref 69)]) (st1 := [.int (Int32.ofInt 1), .int (gI h57 69 27), .ref 69]) 2 (fun _ _ _ _ => rfl) ?_
                    obtain ⟨q59, hq60, h⟩ := bd_e h
                    have hC61 := (fx_M_flag hS58 hq60).1
                    refine py_st (pc := 189) (mi := mi_M_flag) (N := mm_M_flag) rfl rfl rfl (Nat.le_of_ble_eq_true rfl) (Nat.le_of_ble_eq_true rfl) rfl rfl hC61 ?_
                    show px_Y mm_M_readsLine 192 [(2, .int (Int32.ofInt 2)), (1, .int ((aI q16.2 85 (gI q16.2 69 23).toNatClampNeg) - (Int8.ofInt 48).toInt32)), (0, .ref 69)] [.int q59, .int (gI h57 69 27), .ref 69] h57 _ _
                    refine py_its (pc := 192) (pc1 := 193) (lv1 := [(2, .int (Int32.ofInt 2)), (1, .int ((aI q16.2 85 (gI q16.2 69 23).toNatClampNeg) - (Int8.ofInt 48).toInt32)), (0, .ref 69)]) (st1 := [.int ((gI h57 69 27) + q59), .ref 69]) 1 (fun _ _ _ _ => rfl) ?_
                    have h := sb_e h
                    refine py_pI (pc := 193) (len := 3) (cs := [69]) rfl rfl rfl List.mem_cons_self hS58 rfl rfl rfl rfl ?_
                    have hS63 : oS (wF h57 69 27 (.int ((gI h57 69 27) + q59))) := oS_wI (cs := [69]) (ci := 9) rfl List.mem_cons_self hS58
                    generalize (wF h57 69 27 (.int ((gI h57 69 27) + q59))) = h62 at h hS63 ⊢
                    refine py_its (pc := 196) (pc1 := 197) (lv1 := [(2, .int (Int32.ofInt 2)), (1, .int ((aI q16.2 85 (gI q16.2 69 23).toNatClampNeg) - (Int8.ofInt 48).toInt32)), (0, .ref 69)]) (st1 := [.int (Int32.ofInt 2)]) 1 (fun _ _ _ _ => rfl) ?_
                    refine py_if (pc := 197) (len := 3) false rfl (by decide) ?_
                    refine py_its (pc := 200) (pc1 := 205) (lv1 := [(2, .int (Int32.ofInt 2)), (1, .int ((aI q16.2 85 (gI q16.2 69 23).toNatClampNeg) - (Int8.ofInt 48).toInt32)), (0, .ref 69)]) (st1 := [.int (Int32.ofInt 1)]) 2 (fun _ _ _ _ => rfl) ?_
                    have h := Option.some.inj h
                    subst h
                    exact py_ir (pc := 205) (len := 1) (ty := .boolean) rfl rfl (by decide) hS63
                | false =>
                  have h := cd_f hb36 h
                  refine py_if (pc := 133) (len := 3) false rfl hb36 ?_
                  refine py_its (pc := 136) (pc1 := 156) (lv1 := [(2, .int (Int32.ofInt 1)), (1, .int ((aI q16.2 85 (gI q16.2 69 23).toNatClampNeg) - (Int8.ofInt 48).toInt32)), (0, .ref 69)]) (st1 := [.ref 69]) 4 (fun _ _ _ _ => rfl) ?_
                  refine py_g1 86 (pc := 156) (len := 3) (cs := [69]) rfl rfl rfl List.mem_cons_self hS35 ?_
                  refine py_its (pc := 159) (pc1 := 160) (lv1 := [(2, .int (Int32.ofInt 1)), (1, .int ((aI q16.2 85 (gI q16.2 69 23).toNatClampNeg) - (Int8.ofInt 48).toInt32)), (0, .ref 69)]) (st1 := [.ref 69, .ref 86]) 1 (fun _ _ _ _ => rfl) ?_
                  refine py_gI (pc := 160) (len := 3) (cs := [69]) rfl rfl rfl List.mem_cons_self hS35 ?_
                  refine py_its (pc := 163) (pc1 := 164) (lv1 := [(2, .int (Int32.ofInt 1)), (1, .int ((aI q16.2 85 (gI q16.2 69 23).toNatClampNeg) - (Int8.ofInt 48).toInt32)), (0, .ref 69)]) (st1 := [.int ((aI q16.2 85 (gI q16.2 69 23).toNatClampNeg) - (Int8.ofInt 48).toInt32), .int (gI q32.2 69 27), .ref 86]) 1 (fun _ _ _ _ => rfl) ?_
                  obtain ⟨hi64, h⟩ := cd_n h
                  have h := sb_e h
                  refine py_si (pc := 164) (len := 1) (cs := [86]) (t := 43) (n := 8) rfl rfl rfl hi64 List.mem_cons_self hS35 ?_
                  have hS66 : oS (uI q32.2 86 (gI q32.2 69 27).toNatClampNeg ((aI q16.2 85 (gI q16.2 69 23).toNatClampNeg) - (Int8.ofInt 48).toInt32)) := oS_uI (cs := [86]) (t := 43) (n := 8) rfl List.mem_cons_self hS35
                  generalize (uI q32.2 86 (gI q32.2 69 27).toNatClampNeg ((aI q16.2 85 (gI q16.2 69 23).toNatClampNeg) - (Int8.ofInt 48).toInt32)) = h65 at h hS66 ⊢
                  refine py_its (pc := 165) (pc1 := 166) (lv1 := [(2, .int (Int32.ofInt 1)), (1, .int ((aI q16.2 85 (gI q16.2 69 23).toNatClampNeg) - (Int8.ofInt 48).toInt32)), (0, .ref 69)]) (st1 := [.ref 69]) 1 (fun _ _ _ _ => rfl) ?_
                  refine py_g1 87 (pc := 166) (len := 3) (cs := [69]) rfl rfl rfl List.mem_cons_self hS66 ?_
                  refine py_its (pc := 169) (pc1 := 170) (lv1 := [(2, .int (Int32.ofInt 1)), (1, .int ((aI q16.2 85 (gI q16.2 69 23).toNatClampNeg) - (Int8.ofInt 48).toInt32)), (0, .ref 69)]) (st1 := [.ref 69, .ref 87]) 1 (fun _ _ _ _ => rfl) ?_
                  refine py_gI (pc := 170) (len := 3) (cs := [69]) rfl rfl rfl List.mem_cons_self hS66 ?_
                  refine py_its (pc := 173) (pc1 := 174) (lv1 := [(2, .int (Int32.ofInt 1)), (1, .int ((aI q16.2 85 (gI q16.2 69 23).toNatClampNeg) - (Int8.ofInt 48).toInt32)), (0, .ref 69)]) (st1 := [.int (Int32.ofInt 1), .int (gI h65 69 27), .ref 87]) 1 (fun _ _ _ _ => rfl) ?_
                  obtain ⟨hi67, h⟩ := cd_n h
                  have h := sb_e h
                  refine py_si (pc := 174) (len := 1) (cs := [87]) (t := 44) (n := 8) rfl rfl rfl hi67 List.mem_cons_self hS66 ?_
                  have hS69 : oS (uI h65 87 (gI h65 69 27).toNatClampNeg (Int32.ofInt 1)) := oS_uI (cs := [87]) (t := 44) (n := 8) rfl List.mem_cons_self hS66
                  generalize (uI h65 87 (gI h65 69 27).toNatClampNeg (Int32.ofInt 1)) = h68 at h hS69 ⊢
                  refine py_its (pc := 175) (pc1 := 177) (lv1 := [(2, .int (Int32.ofInt 1)), (1, .int ((aI q16.2 85 (gI q16.2 69 23).toNatClampNeg) - (Int8.ofInt 48).toInt32)), (0, .ref 69)]) (st1 := [.ref 69, .ref 69]) 2 (fun _ _ _ _ => rfl) ?_
                  refine py_gI (pc := 177) (len := 3) (cs := [69]) rfl rfl rfl List.mem_cons_self hS69 ?_
                  refine py_its (pc := 180) (pc1 := 181) (lv1 := [(2, .int (Int32.ofInt 1)), (1, .int ((aI q16.2 85 (gI q16.2 69 23).toNatClampNeg) - (Int8.ofInt 48).toInt32)), (0, .ref 69)]) (st1 := [.int (Int32.ofInt 1), .int (gI h68 69 27), .ref 69]) 1 (fun _ _ _ _ => rfl) ?_
                  refine py_if (pc := 181) (len := 3) false rfl (by decide) ?_
                  refine py_its (pc := 184) (pc1 := 189) (lv1 := [(2, .int (Int32.ofInt 1)), (1, .int ((aI q16.2 85 (gI q16.2 69 23).toNatClampNeg) - (Int8.ofInt 48).toInt32)), (0, .ref 69)]) (st1 := [.int (Int32.ofInt 1), .int (gI h68 69 27), .ref 69]) 2 (fun _ _ _ _ => rfl) ?_
                  obtain ⟨q70, hq71, h⟩ := bd_e h
                  have hC72 := (fx_M_flag hS69 hq71).1
                  refine py_st (pc := 189) (mi := mi_M_flag) (N := mm_M_flag) rfl rfl rfl (Nat.le_of_ble_eq_true rfl) (Nat.le_of_ble_eq_true rfl) rfl rfl hC72 ?_
                  show px_Y mm_M_readsLine 192 [(2, .int (Int32.ofInt 1)), (1, .int ((aI q16.2 85 (gI q16.2 69 23).toNatClampNeg) - (Int8.ofInt 48).toInt32)), (0, .ref 69)] [.int q70, .int (gI h68 69 27), .ref 69] h68 _ _
                  refine py_its (pc := 192) (pc1 := 193) (lv1 := [(2, .int (Int32.ofInt 1)), (1, .int ((aI q16.2 85 (gI q16.2 69 23).toNatClampNeg) - (Int8.ofInt 48).toInt32)), (0, .ref 69)]) (st1 := [.int ((gI h68 69 27) + q70), .ref 69]) 1 (fun _ _ _ _ => rfl) ?_
                  have h := sb_e h
                  refine py_pI (pc := 193) (len := 3) (cs := [69]) rfl rfl rfl List.mem_cons_self hS69 rfl rfl rfl rfl ?_
                  have hS74 : oS (wF h68 69 27 (.int ((gI h68 69 27) + q70))) := oS_wI (cs := [69]) (ci := 9) rfl List.mem_cons_self hS69
                  generalize (wF h68 69 27 (.int ((gI h68 69 27) + q70))) = h73 at h hS74 ⊢
                  refine py_its (pc := 196) (pc1 := 197) (lv1 := [(2, .int (Int32.ofInt 1)), (1, .int ((aI q16.2 85 (gI q16.2 69 23).toNatClampNeg) - (Int8.ofInt 48).toInt32)), (0, .ref 69)]) (st1 := [.int (Int32.ofInt 1)]) 1 (fun _ _ _ _ => rfl) ?_
                  refine py_if (pc := 197) (len := 3) false rfl (by decide) ?_
                  refine py_its (pc := 200) (pc1 := 205) (lv1 := [(2, .int (Int32.ofInt 1)), (1, .int ((aI q16.2 85 (gI q16.2 69 23).toNatClampNeg) - (Int8.ofInt 48).toInt32)), (0, .ref 69)]) (st1 := [.int (Int32.ofInt 1)]) 2 (fun _ _ _ _ => rfl) ?_
                  have h := Option.some.inj h
                  subst h
                  exact py_ir (pc := 205) (len := 1) (ty := .boolean) rfl rfl (by decide) hS74
              | false =>
                have h := cd_f hb31 h
                refine py_if (pc := 120) (len := 3) false rfl hb31 ?_
                refine py_its (pc := 123) (pc1 := 156) (lv1 := [(2, .int (Int32.ofInt 0)), (1, .int ((aI q16.2 85 (gI q16.2 69 23).toNatClampNeg) - (Int8.ofInt 48).toInt32)), (0, .ref 69)]) (st1 := [.ref 69]) 4 (fun _ _ _ _ => rfl) ?_
                refine py_g1 86 (pc := 156) (len := 3) (cs := [69]) rfl rfl rfl List.mem_cons_self hS30 ?_
                refine py_its (pc := 159) (pc1 := 160) (lv1 := [(2, .int (Int32.ofInt 0)), (1, .int ((aI q16.2 85 (gI q16.2 69 23).toNatClampNeg) - (Int8.ofInt 48).toInt32)), (0, .ref 69)]) (st1 := [.ref 69, .ref 86]) 1 (fun _ _ _ _ => rfl) ?_
                refine py_gI (pc := 160) (len := 3) (cs := [69]) rfl rfl rfl List.mem_cons_self hS30 ?_
                refine py_its (pc := 163) (pc1 := 164) (lv1 := [(2, .int (Int32.ofInt 0)), (1, .int ((aI q16.2 85 (gI q16.2 69 23).toNatClampNeg) - (Int8.ofInt 48).toInt32)), (0, .ref 69)]) (st1 := [.int ((aI q16.2 85 (gI q16.2 69 23).toNatClampNeg) - (Int8.ofInt 48).toInt32), .int (gI q27.2 69 27), .ref 86]) 1 (fun _ _ _ _ => rfl) ?_
                obtain ⟨hi75, h⟩ := cd_n h
                have h := sb_e h
                refine py_si (pc := 164) (len := 1) (cs := [86]) (t := 43) (n := 8) rfl rfl rfl hi75 List.mem_cons_self hS30 ?_
                have hS77 : oS (uI q27.2 86 (gI q27.2 69 27).toNatClampNeg ((aI q16.2 85 (gI q16.2 69 23).toNatClampNeg) - (Int8.ofInt 48).toInt32)) := oS_uI (cs := [86]) (t := 43) (n := 8) rfl List.mem_cons_self hS30
                generalize (uI q27.2 86 (gI q27.2 69 27).toNatClampNeg ((aI q16.2 85 (gI q16.2 69 23).toNatClampNeg) - (Int8.ofInt 48).toInt32)) = h76 at h hS77 ⊢
                refine py_its (pc := 165) (pc1 := 166) (lv1 := [(2, .int (Int32.ofInt 0)), (1, .int ((aI q16.2 85 (gI q16.2 69 23).toNatClampNeg) - (Int8.ofInt 48).toInt32)), (0, .ref 69)]) (st1 := [.ref 69]) 1 (fun _ _ _ _ => rfl) ?_
                refine py_g1 87 (pc := 166) (len := 3) (cs := [69]) rfl rfl rfl List.mem_cons_self hS77 ?_
                refine py_its (pc := 169) (pc1 := 170) (lv1 := [(2, .int (Int32.ofInt 0)), (1, .int ((aI q16.2 85 (gI q16.2 69 23).toNatClampNeg) - (Int8.ofInt 48).toInt32)), (0, .ref 69)]) (st1 := [.ref 69, .ref 87]) 1 (fun _ _ _ _ => rfl) ?_
                refine py_gI (pc := 170) (len := 3) (cs := [69]) rfl rfl rfl List.mem_cons_self hS77 ?_
                refine py_its (pc := 173) (pc1 := 174) (lv1 := [(2, .int (Int32.ofInt 0)), (1, .int ((aI q16.2 85 (gI q16.2 69 23).toNatClampNeg) - (Int8.ofInt 48).toInt32)), (0, .ref 69)]) (st1 := [.int (Int32.ofInt 0), .int (gI h76 69 27), .ref 87]) 1 (fun _ _ _ _ => rfl) ?_
                obtain ⟨hi78, h⟩ := cd_n h
                have h := sb_e h
                refine py_si (pc := 174) (len := 1) (cs := [87]) (t := 44) (n := 8) rfl rfl rfl hi78 List.mem_cons_self hS77 ?_
                have hS80 : oS (uI h76 87 (gI h76 69 27).toNatClampNeg (Int32.ofInt 0)) := oS_uI (cs := [87]) (t := 44) (n := 8) rfl List.mem_cons_self hS77
                generalize (uI h76 87 (gI h76 69 27).toNatClampNeg (Int32.ofInt 0)) = h79 at h hS80 ⊢
                refine py_its (pc := 175) (pc1 := 177) (lv1 := [(2, .int (Int32.ofInt 0)), (1, .int ((aI q16.2 85 (gI q16.2 69 23).toNatClampNeg) - (Int8.ofInt 48).toInt32)), (0, .ref 69)]) (st1 := [.ref 69, .ref 69]) 2 (fun _ _ _ _ => rfl) ?_
                refine py_gI (pc := 177) (len := 3) (cs := [69]) rfl rfl rfl List.mem_cons_self hS80 ?_
                refine py_its (pc := 180) (pc1 := 181) (lv1 := [(2, .int (Int32.ofInt 0)), (1, .int ((aI q16.2 85 (gI q16.2 69 23).toNatClampNeg) - (Int8.ofInt 48).toInt32)), (0, .ref 69)]) (st1 := [.int (Int32.ofInt 0), .int (gI h79 69 27), .ref 69]) 1 (fun _ _ _ _ => rfl) ?_
                refine py_if (pc := 181) (len := 3) false rfl (by decide) ?_
                refine py_its (pc := 184) (pc1 := 189) (lv1 := [(2, .int (Int32.ofInt 0)), (1, .int ((aI q16.2 85 (gI q16.2 69 23).toNatClampNeg) - (Int8.ofInt 48).toInt32)), (0, .ref 69)]) (st1 := [.int (Int32.ofInt 1), .int (gI h79 69 27), .ref 69]) 2 (fun _ _ _ _ => rfl) ?_
                obtain ⟨q81, hq82, h⟩ := bd_e h
                have hC83 := (fx_M_flag hS80 hq82).1
                refine py_st (pc := 189) (mi := mi_M_flag) (N := mm_M_flag) rfl rfl rfl (Nat.le_of_ble_eq_true rfl) (Nat.le_of_ble_eq_true rfl) rfl rfl hC83 ?_
                show px_Y mm_M_readsLine 192 [(2, .int (Int32.ofInt 0)), (1, .int ((aI q16.2 85 (gI q16.2 69 23).toNatClampNeg) - (Int8.ofInt 48).toInt32)), (0, .ref 69)] [.int q81, .int (gI h79 69 27), .ref 69] h79 _ _
                refine py_its (pc := 192) (pc1 := 193) (lv1 := [(2, .int (Int32.ofInt 0)), (1, .int ((aI q16.2 85 (gI q16.2 69 23).toNatClampNeg) - (Int8.ofInt 48).toInt32)), (0, .ref 69)]) (st1 := [.int ((gI h79 69 27) + q81), .ref 69]) 1 (fun _ _ _ _ => rfl) ?_
                have h := sb_e h
                refine py_pI (pc := 193) (len := 3) (cs := [69]) rfl rfl rfl List.mem_cons_self hS80 rfl rfl rfl rfl ?_
                have hS85 : oS (wF h79 69 27 (.int ((gI h79 69 27) + q81))) := oS_wI (cs := [69]) (ci := 9) rfl List.mem_cons_self hS80
                generalize (wF h79 69 27 (.int ((gI h79 69 27) + q81))) = h84 at h hS85 ⊢
                refine py_its (pc := 196) (pc1 := 197) (lv1 := [(2, .int (Int32.ofInt 0)), (1, .int ((aI q16.2 85 (gI q16.2 69 23).toNatClampNeg) - (Int8.ofInt 48).toInt32)), (0, .ref 69)]) (st1 := [.int (Int32.ofInt 0)]) 1 (fun _ _ _ _ => rfl) ?_
                refine py_if (pc := 197) (len := 3) false rfl (by decide) ?_
                refine py_its (pc := 200) (pc1 := 205) (lv1 := [(2, .int (Int32.ofInt 0)), (1, .int ((aI q16.2 85 (gI q16.2 69 23).toNatClampNeg) - (Int8.ofInt 48).toInt32)), (0, .ref 69)]) (st1 := [.int (Int32.ofInt 1)]) 2 (fun _ _ _ _ => rfl) ?_
                have h := Option.some.inj h
                subst h
                exact py_ir (pc := 205) (len := 1) (ty := .boolean) rfl rfl (by decide) hS85
            | false =>
              have h := cd_f hb23 h
              refine py_if (pc := 86) (len := 3) false rfl hb23 ?_
              refine py_its (pc := 89) (pc1 := 90) (lv1 := [(1, .int (Int32.ofInt (-1))), (0, .ref 69)]) (st1 := [.int (Int32.ofInt 0)]) 1 (fun _ _ _ _ => rfl) ?_
              have h := Option.some.inj h
              subst h
              exact py_ir (pc := 90) (len := 1) (ty := .boolean) rfl rfl (by decide) hS19
      | false =>
        have h := cd_f hb15 h
        refine py_if (pc := 33) (len := 3) false rfl hb15 ?_
        refine py_its (pc := 36) (pc1 := 44) (lv1 := [(1, .int (Int8.ofInt 8).toInt32), (0, .ref 69)]) (st1 := [.int (Int8.ofInt 8).toInt32]) 4 (fun _ _ _ _ => rfl) ?_
        refine py_if (pc := 44) (len := 3) true rfl (by decide) ?_
        refine py_its (pc := 114) (pc1 := 117) (lv1 := [(1, .int (Int8.ofInt 8).toInt32), (0, .ref 69)]) (st1 := [.int (Int8.ofInt 98).toInt32, .ref 69]) 2 (fun _ _ _ _ => rfl) ?_
        obtain ⟨q86, hq87, h⟩ := bd_e h
        obtain ⟨hC88, hS89⟩ := fx_M_comes hS14 hq87
        refine py_vi (pc := 117) (mi := mi_M_comes) (cs := [69]) (N := mm_M_comes) rfl rfl rfl rfl List.mem_cons_self hS14 rfl (Nat.le_of_ble_eq_true rfl) (Nat.le_of_ble_eq_true rfl) rfl rfl hC88 ?_
        show px_Y mm_M_readsLine 120 [(1, .int (Int8.ofInt 8).toInt32), (0, .ref 69)] [.int q86.1] q86.2 _ _
        cases hb90 : px_cmp .eq q86.1 0 with
        | true =>
          have h := cd_t hb90 h
          refine py_if (pc := 120) (len := 3) true rfl hb90 ?_
          refine py_its (pc := 127) (pc1 := 130) (lv1 := [(1, .int (Int8.ofInt 8).toInt32), (0, .ref 69)]) (st1 := [.int (Int8.ofInt 116).toInt32, .ref 69]) 2 (fun _ _ _ _ => rfl) ?_
          obtain ⟨q91, hq92, h⟩ := bd_e h
          obtain ⟨hC93, hS94⟩ := fx_M_comes hS89 hq92
          refine py_vi (pc := 130) (mi := mi_M_comes) (cs := [69]) (N := mm_M_comes) rfl rfl rfl rfl List.mem_cons_self hS89 rfl (Nat.le_of_ble_eq_true rfl) (Nat.le_of_ble_eq_true rfl) rfl rfl hC93 ?_
          show px_Y mm_M_readsLine 133 [(1, .int (Int8.ofInt 8).toInt32), (0, .ref 69)] [.int q91.1] q91.2 _ _
          cases hb95 : px_cmp .eq q91.1 0 with
          | true =>
            have h := cd_t hb95 h
            refine py_if (pc := 133) (len := 3) true rfl hb95 ?_
            refine py_its (pc := 140) (pc1 := 143) (lv1 := [(1, .int (Int8.ofInt 8).toInt32), (0, .ref 69)]) (st1 := [.int (Int8.ofInt 108).toInt32, .ref 69]) 2 (fun _ _ _ _ => rfl) ?_
            obtain ⟨q96, hq97, h⟩ := bd_e h
            obtain ⟨hC98, hS99⟩ := fx_M_comes hS94 hq97
            refine py_vi (pc := 143) (mi := mi_M_comes) (cs := [69]) (N := mm_M_comes) rfl rfl rfl rfl List.mem_cons_self hS94 rfl (Nat.le_of_ble_eq_true rfl) (Nat.le_of_ble_eq_true rfl) rfl rfl hC98 ?_
            show px_Y mm_M_readsLine 146 [(1, .int (Int8.ofInt 8).toInt32), (0, .ref 69)] [.int q96.1] q96.2 _ _
            cases hb100 : px_cmp .eq q96.1 0 with
            | true =>
              have h := cd_t hb100 h
              refine py_if (pc := 146) (len := 3) true rfl hb100 ?_
              refine py_its (pc := 153) (pc1 := 156) (lv1 := [(2, .int (Int32.ofInt (-1))), (1, .int (Int8.ofInt 8).toInt32), (0, .ref 69)]) (st1 := [.ref 69]) 3 (fun _ _ _ _ => rfl) ?_
              refine py_g1 86 (pc := 156) (len := 3) (cs := [69]) rfl rfl rfl List.mem_cons_self hS99 ?_
              refine py_its (pc := 159) (pc1 := 160) (lv1 := [(2, .int (Int32.ofInt (-1))), (1, .int (Int8.ofInt 8).toInt32), (0, .ref 69)]) (st1 := [.ref 69, .ref 86]) 1 (fun _ _ _ _ => rfl) ?_
              refine py_gI (pc := 160) (len := 3) (cs := [69]) rfl rfl rfl List.mem_cons_self hS99 ?_
              refine py_its (pc := 163) (pc1 := 164) (lv1 := [(2, .int (Int32.ofInt (-1))), (1, .int (Int8.ofInt 8).toInt32), (0, .ref 69)]) (st1 := [.int (Int8.ofInt 8).toInt32, .int (gI q96.2 69 27), .ref 86]) 1 (fun _ _ _ _ => rfl) ?_
              obtain ⟨hi101, h⟩ := cd_n h
              have h := sb_e h
              refine py_si (pc := 164) (len := 1) (cs := [86]) (t := 43) (n := 8) rfl rfl rfl hi101 List.mem_cons_self hS99 ?_
              have hS103 : oS (uI q96.2 86 (gI q96.2 69 27).toNatClampNeg (Int8.ofInt 8).toInt32) := oS_uI (cs := [86]) (t := 43) (n := 8) rfl List.mem_cons_self hS99
              generalize (uI q96.2 86 (gI q96.2 69 27).toNatClampNeg (Int8.ofInt 8).toInt32) = h102 at h hS103 ⊢
              refine py_its (pc := 165) (pc1 := 166) (lv1 := [(2, .int (Int32.ofInt (-1))), (1, .int (Int8.ofInt 8).toInt32), (0, .ref 69)]) (st1 := [.ref 69]) 1 (fun _ _ _ _ => rfl) ?_
              refine py_g1 87 (pc := 166) (len := 3) (cs := [69]) rfl rfl rfl List.mem_cons_self hS103 ?_
              refine py_its (pc := 169) (pc1 := 170) (lv1 := [(2, .int (Int32.ofInt (-1))), (1, .int (Int8.ofInt 8).toInt32), (0, .ref 69)]) (st1 := [.ref 69, .ref 87]) 1 (fun _ _ _ _ => rfl) ?_
              refine py_gI (pc := 170) (len := 3) (cs := [69]) rfl rfl rfl List.mem_cons_self hS103 ?_
              refine py_its (pc := 173) (pc1 := 174) (lv1 := [(2, .int (Int32.ofInt (-1))), (1, .int (Int8.ofInt 8).toInt32), (0, .ref 69)]) (st1 := [.int (Int32.ofInt (-1)), .int (gI h102 69 27), .ref 87]) 1 (fun _ _ _ _ => rfl) ?_
              obtain ⟨hi104, h⟩ := cd_n h
              have h := sb_e h
              refine py_si (pc := 174) (len := 1) (cs := [87]) (t := 44) (n := 8) rfl rfl rfl hi104 List.mem_cons_self hS103 ?_
              have hS106 : oS (uI h102 87 (gI h102 69 27).toNatClampNeg (Int32.ofInt (-1))) := oS_uI (cs := [87]) (t := 44) (n := 8) rfl List.mem_cons_self hS103
              generalize (uI h102 87 (gI h102 69 27).toNatClampNeg (Int32.ofInt (-1))) = h105 at h hS106 ⊢
              refine py_its (pc := 175) (pc1 := 177) (lv1 := [(2, .int (Int32.ofInt (-1))), (1, .int (Int8.ofInt 8).toInt32), (0, .ref 69)]) (st1 := [.ref 69, .ref 69]) 2 (fun _ _ _ _ => rfl) ?_
              refine py_gI (pc := 177) (len := 3) (cs := [69]) rfl rfl rfl List.mem_cons_self hS106 ?_
              refine py_its (pc := 180) (pc1 := 181) (lv1 := [(2, .int (Int32.ofInt (-1))), (1, .int (Int8.ofInt 8).toInt32), (0, .ref 69)]) (st1 := [.int (Int32.ofInt (-1)), .int (gI h105 69 27), .ref 69]) 1 (fun _ _ _ _ => rfl) ?_
              refine py_if (pc := 181) (len := 3) true rfl (by decide) ?_
              refine py_its (pc := 188) (pc1 := 189) (lv1 := [(2, .int (Int32.ofInt (-1))), (1, .int (Int8.ofInt 8).toInt32), (0, .ref 69)]) (st1 := [.int (Int32.ofInt 0), .int (gI h105 69 27), .ref 69]) 1 (fun _ _ _ _ => rfl) ?_
              obtain ⟨q107, hq108, h⟩ := bd_e h
              have hC109 := (fx_M_flag hS106 hq108).1
              refine py_st (pc := 189) (mi := mi_M_flag) (N := mm_M_flag) rfl rfl rfl (Nat.le_of_ble_eq_true rfl) (Nat.le_of_ble_eq_true rfl) rfl rfl hC109 ?_
              show px_Y mm_M_readsLine 192 [(2, .int (Int32.ofInt (-1))), (1, .int (Int8.ofInt 8).toInt32), (0, .ref 69)] [.int q107, .int (gI h105 69 27), .ref 69] h105 _ _
              refine py_its (pc := 192) (pc1 := 193) (lv1 := [(2, .int (Int32.ofInt (-1))), (1, .int (Int8.ofInt 8).toInt32), (0, .ref 69)]) (st1 := [.int ((gI h105 69 27) + q107), .ref 69]) 1 (fun _ _ _ _ => rfl) ?_
              have h := sb_e h
              refine py_pI (pc := 193) (len := 3) (cs := [69]) rfl rfl rfl List.mem_cons_self hS106 rfl rfl rfl rfl ?_
              have hS111 : oS (wF h105 69 27 (.int ((gI h105 69 27) + q107))) := oS_wI (cs := [69]) (ci := 9) rfl List.mem_cons_self hS106
              generalize (wF h105 69 27 (.int ((gI h105 69 27) + q107))) = h110 at h hS111 ⊢
              refine py_its (pc := 196) (pc1 := 197) (lv1 := [(2, .int (Int32.ofInt (-1))), (1, .int (Int8.ofInt 8).toInt32), (0, .ref 69)]) (st1 := [.int (Int32.ofInt (-1))]) 1 (fun _ _ _ _ => rfl) ?_
              refine py_if (pc := 197) (len := 3) true rfl (by decide) ?_
              refine py_its (pc := 204) (pc1 := 205) (lv1 := [(2, .int (Int32.ofInt (-1))), (1, .int (Int8.ofInt 8).toInt32), (0, .ref 69)]) (st1 := [.int (Int32.ofInt 0)]) 1 (fun _ _ _ _ => rfl) ?_
              have h := Option.some.inj h
              subst h
              exact py_ir (pc := 205) (len := 1) (ty := .boolean) rfl rfl (by decide) hS111
            | false =>
              have h := cd_f hb100 h
              refine py_if (pc := 146) (len := 3) false rfl hb100 ?_
              refine py_its (pc := 149) (pc1 := 156) (lv1 := [(2, .int (Int32.ofInt 2)), (1, .int (Int8.ofInt 8).toInt32), (0, .ref 69)]) (st1 := [.ref 69]) 4 (fun _ _ _ _ => rfl) ?_
              refine py_g1 86 (pc := 156) (len := 3) (cs := [69]) rfl rfl rfl List.mem_cons_self hS99 ?_
              refine py_its (pc := 159) (pc1 := 160) (lv1 := [(2, .int (Int32.ofInt 2)), (1, .int (Int8.ofInt 8).toInt32), (0, .ref 69)]) (st1 := [.ref 69, .ref 86]) 1 (fun _ _ _ _ => rfl) ?_
              refine py_gI (pc := 160) (len := 3) (cs := [69]) rfl rfl rfl List.mem_cons_self hS99 ?_
              refine py_its (pc := 163) (pc1 := 164) (lv1 := [(2, .int (Int32.ofInt 2)), (1, .int (Int8.ofInt 8).toInt32), (0, .ref 69)]) (st1 := [.int (Int8.ofInt 8).toInt32, .int (gI q96.2 69 27), .ref 86]) 1 (fun _ _ _ _ => rfl) ?_
              obtain ⟨hi112, h⟩ := cd_n h
              have h := sb_e h
              refine py_si (pc := 164) (len := 1) (cs := [86]) (t := 43) (n := 8) rfl rfl rfl hi112 List.mem_cons_self hS99 ?_
              have hS114 : oS (uI q96.2 86 (gI q96.2 69 27).toNatClampNeg (Int8.ofInt 8).toInt32) := oS_uI (cs := [86]) (t := 43) (n := 8) rfl List.mem_cons_self hS99
              generalize (uI q96.2 86 (gI q96.2 69 27).toNatClampNeg (Int8.ofInt 8).toInt32) = h113 at h hS114 ⊢
              refine py_its (pc := 165) (pc1 := 166) (lv1 := [(2, .int (Int32.ofInt 2)), (1, .int (Int8.ofInt 8).toInt32), (0, .ref 69)]) (st1 := [.ref 69]) 1 (fun _ _ _ _ => rfl) ?_
              refine py_g1 87 (pc := 166) (len := 3) (cs := [69]) rfl rfl rfl List.mem_cons_self hS114 ?_
              refine py_its (pc := 169) (pc1 := 170) (lv1 := [(2, .int (Int32.ofInt 2)), (1, .int (Int8.ofInt 8).toInt32), (0, .ref 69)]) (st1 := [.ref 69, .ref 87]) 1 (fun _ _ _ _ => rfl) ?_
              refine py_gI (pc := 170) (len := 3) (cs := [69]) rfl rfl rfl List.mem_cons_self hS114 ?_
              refine py_its (pc := 173) (pc1 := 174) (lv1 := [(2, .int (Int32.ofInt 2)), (1, .int (Int8.ofInt 8).toInt32), (0, .ref 69)]) (st1 := [.int (Int32.ofInt 2), .int (gI h113 69 27), .ref 87]) 1 (fun _ _ _ _ => rfl) ?_
              obtain ⟨hi115, h⟩ := cd_n h
              have h := sb_e h
              refine py_si (pc := 174) (len := 1) (cs := [87]) (t := 44) (n := 8) rfl rfl rfl hi115 List.mem_cons_self hS114 ?_
              have hS117 : oS (uI h113 87 (gI h113 69 27).toNatClampNeg (Int32.ofInt 2)) := oS_uI (cs := [87]) (t := 44) (n := 8) rfl List.mem_cons_self hS114
              generalize (uI h113 87 (gI h113 69 27).toNatClampNeg (Int32.ofInt 2)) = h116 at h hS117 ⊢
              refine py_its (pc := 175) (pc1 := 177) (lv1 := [(2, .int (Int32.ofInt 2)), (1, .int (Int8.ofInt 8).toInt32), (0, .ref 69)]) (st1 := [.ref 69, .ref 69]) 2 (fun _ _ _ _ => rfl) ?_
              refine py_gI (pc := 177) (len := 3) (cs := [69]) rfl rfl rfl List.mem_cons_self hS117 ?_
              refine py_its (pc := 180) (pc1 := 181) (lv1 := [(2, .int (Int32.ofInt 2)), (1, .int (Int8.ofInt 8).toInt32), (0, .ref 69)]) (st1 := [.int (Int32.ofInt 2), .int (gI h116 69 27), .ref 69]) 1 (fun _ _ _ _ => rfl) ?_
              refine py_if (pc := 181) (len := 3) false rfl (by decide) ?_
              refine py_its (pc := 184) (pc1 := 189) (lv1 := [(2, .int (Int32.ofInt 2)), (1, .int (Int8.ofInt 8).toInt32), (0, .ref 69)]) (st1 := [.int (Int32.ofInt 1), .int (gI h116 69 27), .ref 69]) 2 (fun _ _ _ _ => rfl) ?_
              obtain ⟨q118, hq119, h⟩ := bd_e h
              have hC120 := (fx_M_flag hS117 hq119).1
              refine py_st (pc := 189) (mi := mi_M_flag) (N := mm_M_flag) rfl rfl rfl (Nat.le_of_ble_eq_true rfl) (Nat.le_of_ble_eq_true rfl) rfl rfl hC120 ?_
              show px_Y mm_M_readsLine 192 [(2, .int (Int32.ofInt 2)), (1, .int (Int8.ofInt 8).toInt32), (0, .ref 69)] [.int q118, .int (gI h116 69 27), .ref 69] h116 _ _
              refine py_its (pc := 192) (pc1 := 193) (lv1 := [(2, .int (Int32.ofInt 2)), (1, .int (Int8.ofInt 8).toInt32), (0, .ref 69)]) (st1 := [.int ((gI h116 69 27) + q118), .ref 69]) 1 (fun _ _ _ _ => rfl) ?_
              have h := sb_e h
              refine py_pI (pc := 193) (len := 3) (cs := [69]) rfl rfl rfl List.mem_cons_self hS117 rfl rfl rfl rfl ?_
              have hS122 : oS (wF h116 69 27 (.int ((gI h116 69 27) + q118))) := oS_wI (cs := [69]) (ci := 9) rfl List.mem_cons_self hS117
              generalize (wF h116 69 27 (.int ((gI h116 69 27) + q118))) = h121 at h hS122 ⊢
              refine py_its (pc := 196) (pc1 := 197) (lv1 := [(2, .int (Int32.ofInt 2)), (1, .int (Int8.ofInt 8).toInt32), (0, .ref 69)]) (st1 := [.int (Int32.ofInt 2)]) 1 (fun _ _ _ _ => rfl) ?_
              refine py_if (pc := 197) (len := 3) false rfl (by decide) ?_
              refine py_its (pc := 200) (pc1 := 205) (lv1 := [(2, .int (Int32.ofInt 2)), (1, .int (Int8.ofInt 8).toInt32), (0, .ref 69)]) (st1 := [.int (Int32.ofInt 1)]) 2 (fun _ _ _ _ => rfl) ?_
              have h := Option.some.inj h
              subst h
              exact py_ir (pc := 205) (len := 1) (ty := .boolean) rfl rfl (by decide) hS122
          | false =>
            have h := cd_f hb95 h
            refine py_if (pc := 133) (len := 3) false rfl hb95 ?_
            refine py_its (pc := 136) (pc1 := 156) (lv1 := [(2, .int (Int32.ofInt 1)), (1, .int (Int8.ofInt 8).toInt32), (0, .ref 69)]) (st1 := [.ref 69]) 4 (fun _ _ _ _ => rfl) ?_
            refine py_g1 86 (pc := 156) (len := 3) (cs := [69]) rfl rfl rfl List.mem_cons_self hS94 ?_
            refine py_its (pc := 159) (pc1 := 160) (lv1 := [(2, .int (Int32.ofInt 1)), (1, .int (Int8.ofInt 8).toInt32), (0, .ref 69)]) (st1 := [.ref 69, .ref 86]) 1 (fun _ _ _ _ => rfl) ?_
            refine py_gI (pc := 160) (len := 3) (cs := [69]) rfl rfl rfl List.mem_cons_self hS94 ?_
            refine py_its (pc := 163) (pc1 := 164) (lv1 := [(2, .int (Int32.ofInt 1)), (1, .int (Int8.ofInt 8).toInt32), (0, .ref 69)]) (st1 := [.int (Int8.ofInt 8).toInt32, .int (gI q91.2 69 27), .ref 86]) 1 (fun _ _ _ _ => rfl) ?_
            obtain ⟨hi123, h⟩ := cd_n h
            have h := sb_e h
            refine py_si (pc := 164) (len := 1) (cs := [86]) (t := 43) (n := 8) rfl rfl rfl hi123 List.mem_cons_self hS94 ?_
            have hS125 : oS (uI q91.2 86 (gI q91.2 69 27).toNatClampNeg (Int8.ofInt 8).toInt32) := oS_uI (cs := [86]) (t := 43) (n := 8) rfl List.mem_cons_self hS94
            generalize (uI q91.2 86 (gI q91.2 69 27).toNatClampNeg (Int8.ofInt 8).toInt32) = h124 at h hS125 ⊢
            refine py_its (pc := 165) (pc1 := 166) (lv1 := [(2, .int (Int32.ofInt 1)), (1, .int (Int8.ofInt 8).toInt32), (0, .ref 69)]) (st1 := [.ref 69]) 1 (fun _ _ _ _ => rfl) ?_
            refine py_g1 87 (pc := 166) (len := 3) (cs := [69]) rfl rfl rfl List.mem_cons_self hS125 ?_
            refine py_its (pc := 169) (pc1 := 170) (lv1 := [(2, .int (Int32.ofInt 1)), (1, .int (Int8.ofInt 8).toInt32), (0, .ref 69)]) (st1 := [.ref 69, .ref 87]) 1 (fun _ _ _ _ => rfl) ?_
            refine py_gI (pc := 170) (len := 3) (cs := [69]) rfl rfl rfl List.mem_cons_self hS125 ?_
            refine py_its (pc := 173) (pc1 := 174) (lv1 := [(2, .int (Int32.ofInt 1)), (1, .int (Int8.ofInt 8).toInt32), (0, .ref 69)]) (st1 := [.int (Int32.ofInt 1), .int (gI h124 69 27), .ref 87]) 1 (fun _ _ _ _ => rfl) ?_
            obtain ⟨hi126, h⟩ := cd_n h
            have h := sb_e h
            refine py_si (pc := 174) (len := 1) (cs := [87]) (t := 44) (n := 8) rfl rfl rfl hi126 List.mem_cons_self hS125 ?_
            have hS128 : oS (uI h124 87 (gI h124 69 27).toNatClampNeg (Int32.ofInt 1)) := oS_uI (cs := [87]) (t := 44) (n := 8) rfl List.mem_cons_self hS125
            generalize (uI h124 87 (gI h124 69 27).toNatClampNeg (Int32.ofInt 1)) = h127 at h hS128 ⊢
            refine py_its (pc := 175) (pc1 := 177) (lv1 := [(2, .int (Int32.ofInt 1)), (1, .int (Int8.ofInt 8).toInt32), (0, .ref 69)]) (st1 := [.ref 69, .ref 69]) 2 (fun _ _ _ _ => rfl) ?_
            refine py_gI (pc := 177) (len := 3) (cs := [69]) rfl rfl rfl List.mem_cons_self hS128 ?_
            refine py_its (pc := 180) (pc1 := 181) (lv1 := [(2, .int (Int32.ofInt 1)), (1, .int (Int8.ofInt 8).toInt32), (0, .ref 69)]) (st1 := [.int (Int32.ofInt 1), .int (gI h127 69 27), .ref 69]) 1 (fun _ _ _ _ => rfl) ?_
            refine py_if (pc := 181) (len := 3) false rfl (by decide) ?_
            refine py_its (pc := 184) (pc1 := 189) (lv1 := [(2, .int (Int32.ofInt 1)), (1, .int (Int8.ofInt 8).toInt32), (0, .ref 69)]) (st1 := [.int (Int32.ofInt 1), .int (gI h127 69 27), .ref 69]) 2 (fun _ _ _ _ => rfl) ?_
            obtain ⟨q129, hq130, h⟩ := bd_e h
            have hC131 := (fx_M_flag hS128 hq130).1
            refine py_st (pc := 189) (mi := mi_M_flag) (N := mm_M_flag) rfl rfl rfl (Nat.le_of_ble_eq_true rfl) (Nat.le_of_ble_eq_true rfl) rfl rfl hC131 ?_
            show px_Y mm_M_readsLine 192 [(2, .int (Int32.ofInt 1)), (1, .int (Int8.ofInt 8).toInt32), (0, .ref 69)] [.int q129, .int (gI h127 69 27), .ref 69] h127 _ _
            refine py_its (pc := 192) (pc1 := 193) (lv1 := [(2, .int (Int32.ofInt 1)), (1, .int (Int8.ofInt 8).toInt32), (0, .ref 69)]) (st1 := [.int ((gI h127 69 27) + q129), .ref 69]) 1 (fun _ _ _ _ => rfl) ?_
            have h := sb_e h
            refine py_pI (pc := 193) (len := 3) (cs := [69]) rfl rfl rfl List.mem_cons_self hS128 rfl rfl rfl rfl ?_
            have hS133 : oS (wF h127 69 27 (.int ((gI h127 69 27) + q129))) := oS_wI (cs := [69]) (ci := 9) rfl List.mem_cons_self hS128
            generalize (wF h127 69 27 (.int ((gI h127 69 27) + q129))) = h132 at h hS133 ⊢
            refine py_its (pc := 196) (pc1 := 197) (lv1 := [(2, .int (Int32.ofInt 1)), (1, .int (Int8.ofInt 8).toInt32), (0, .ref 69)]) (st1 := [.int (Int32.ofInt 1)]) 1 (fun _ _ _ _ => rfl) ?_
            refine py_if (pc := 197) (len := 3) false rfl (by decide) ?_
            refine py_its (pc := 200) (pc1 := 205) (lv1 := [(2, .int (Int32.ofInt 1)), (1, .int (Int8.ofInt 8).toInt32), (0, .ref 69)]) (st1 := [.int (Int32.ofInt 1)]) 2 (fun _ _ _ _ => rfl) ?_
            have h := Option.some.inj h
            subst h
            exact py_ir (pc := 205) (len := 1) (ty := .boolean) rfl rfl (by decide) hS133
        | false =>
          have h := cd_f hb90 h
          refine py_if (pc := 120) (len := 3) false rfl hb90 ?_
          refine py_its (pc := 123) (pc1 := 156) (lv1 := [(2, .int (Int32.ofInt 0)), (1, .int (Int8.ofInt 8).toInt32), (0, .ref 69)]) (st1 := [.ref 69]) 4 (fun _ _ _ _ => rfl) ?_
          refine py_g1 86 (pc := 156) (len := 3) (cs := [69]) rfl rfl rfl List.mem_cons_self hS89 ?_
          refine py_its (pc := 159) (pc1 := 160) (lv1 := [(2, .int (Int32.ofInt 0)), (1, .int (Int8.ofInt 8).toInt32), (0, .ref 69)]) (st1 := [.ref 69, .ref 86]) 1 (fun _ _ _ _ => rfl) ?_
          refine py_gI (pc := 160) (len := 3) (cs := [69]) rfl rfl rfl List.mem_cons_self hS89 ?_
          refine py_its (pc := 163) (pc1 := 164) (lv1 := [(2, .int (Int32.ofInt 0)), (1, .int (Int8.ofInt 8).toInt32), (0, .ref 69)]) (st1 := [.int (Int8.ofInt 8).toInt32, .int (gI q86.2 69 27), .ref 86]) 1 (fun _ _ _ _ => rfl) ?_
          obtain ⟨hi134, h⟩ := cd_n h
          have h := sb_e h
          refine py_si (pc := 164) (len := 1) (cs := [86]) (t := 43) (n := 8) rfl rfl rfl hi134 List.mem_cons_self hS89 ?_
          have hS136 : oS (uI q86.2 86 (gI q86.2 69 27).toNatClampNeg (Int8.ofInt 8).toInt32) := oS_uI (cs := [86]) (t := 43) (n := 8) rfl List.mem_cons_self hS89
          generalize (uI q86.2 86 (gI q86.2 69 27).toNatClampNeg (Int8.ofInt 8).toInt32) = h135 at h hS136 ⊢
          refine py_its (pc := 165) (pc1 := 166) (lv1 := [(2, .int (Int32.ofInt 0)), (1, .int (Int8.ofInt 8).toInt32), (0, .ref 69)]) (st1 := [.ref 69]) 1 (fun _ _ _ _ => rfl) ?_
          refine py_g1 87 (pc := 166) (len := 3) (cs := [69]) rfl rfl rfl List.mem_cons_self hS136 ?_
          refine py_its (pc := 169) (pc1 := 170) (lv1 := [(2, .int (Int32.ofInt 0)), (1, .int (Int8.ofInt 8).toInt32), (0, .ref 69)]) (st1 := [.ref 69, .ref 87]) 1 (fun _ _ _ _ => rfl) ?_
          refine py_gI (pc := 170) (len := 3) (cs := [69]) rfl rfl rfl List.mem_cons_self hS136 ?_
          refine py_its (pc := 173) (pc1 := 174) (lv1 := [(2, .int (Int32.ofInt 0)), (1, .int (Int8.ofInt 8).toInt32), (0, .ref 69)]) (st1 := [.int (Int32.ofInt 0), .int (gI h135 69 27), .ref 87]) 1 (fun _ _ _ _ => rfl) ?_
          obtain ⟨hi137, h⟩ := cd_n h
          have h := sb_e h
          refine py_si (pc := 174) (len := 1) (cs := [87]) (t := 44) (n := 8) rfl rfl rfl hi137 List.mem_cons_self hS136 ?_
          have hS139 : oS (uI h135 87 (gI h135 69 27).toNatClampNeg (Int32.ofInt 0)) := oS_uI (cs := [87]) (t := 44) (n := 8) rfl List.mem_cons_self hS136
          generalize (uI h135 87 (gI h135 69 27).toNatClampNeg (Int32.ofInt 0)) = h138 at h hS139 ⊢
          refine py_its (pc := 175) (pc1 := 177) (lv1 := [(2, .int (Int32.ofInt 0)), (1, .int (Int8.ofInt 8).toInt32), (0, .ref 69)]) (st1 := [.ref 69, .ref 69]) 2 (fun _ _ _ _ => rfl) ?_
          refine py_gI (pc := 177) (len := 3) (cs := [69]) rfl rfl rfl List.mem_cons_self hS139 ?_
          refine py_its (pc := 180) (pc1 := 181) (lv1 := [(2, .int (Int32.ofInt 0)), (1, .int (Int8.ofInt 8).toInt32), (0, .ref 69)]) (st1 := [.int (Int32.ofInt 0), .int (gI h138 69 27), .ref 69]) 1 (fun _ _ _ _ => rfl) ?_
          refine py_if (pc := 181) (len := 3) false rfl (by decide) ?_
          refine py_its (pc := 184) (pc1 := 189) (lv1 := [(2, .int (Int32.ofInt 0)), (1, .int (Int8.ofInt 8).toInt32), (0, .ref 69)]) (st1 := [.int (Int32.ofInt 1), .int (gI h138 69 27), .ref 69]) 2 (fun _ _ _ _ => rfl) ?_
          obtain ⟨q140, hq141, h⟩ := bd_e h
          have hC142 := (fx_M_flag hS139 hq141).1
          refine py_st (pc := 189) (mi := mi_M_flag) (N := mm_M_flag) rfl rfl rfl (Nat.le_of_ble_eq_true rfl) (Nat.le_of_ble_eq_true rfl) rfl rfl hC142 ?_
          show px_Y mm_M_readsLine 192 [(2, .int (Int32.ofInt 0)), (1, .int (Int8.ofInt 8).toInt32), (0, .ref 69)] [.int q140, .int (gI h138 69 27), .ref 69] h138 _ _
          refine py_its (pc := 192) (pc1 := 193) (lv1 := [(2, .int (Int32.ofInt 0)), (1, .int (Int8.ofInt 8).toInt32), (0, .ref 69)]) (st1 := [.int ((gI h138 69 27) + q140), .ref 69]) 1 (fun _ _ _ _ => rfl) ?_
          have h := sb_e h
          refine py_pI (pc := 193) (len := 3) (cs := [69]) rfl rfl rfl List.mem_cons_self hS139 rfl rfl rfl rfl ?_
          have hS144 : oS (wF h138 69 27 (.int ((gI h138 69 27) + q140))) := oS_wI (cs := [69]) (ci := 9) rfl List.mem_cons_self hS139
          generalize (wF h138 69 27 (.int ((gI h138 69 27) + q140))) = h143 at h hS144 ⊢
          refine py_its (pc := 196) (pc1 := 197) (lv1 := [(2, .int (Int32.ofInt 0)), (1, .int (Int8.ofInt 8).toInt32), (0, .ref 69)]) (st1 := [.int (Int32.ofInt 0)]) 1 (fun _ _ _ _ => rfl) ?_
          refine py_if (pc := 197) (len := 3) false rfl (by decide) ?_
          refine py_its (pc := 200) (pc1 := 205) (lv1 := [(2, .int (Int32.ofInt 0)), (1, .int (Int8.ofInt 8).toInt32), (0, .ref 69)]) (st1 := [.int (Int32.ofInt 1)]) 2 (fun _ _ _ _ => rfl) ?_
          have h := Option.some.inj h
          subst h
          exact py_ir (pc := 205) (len := 1) (ty := .boolean) rfl rfl (by decide) hS144
    | false =>
      have h := cd_f hb10 h
      refine py_if (pc := 19) (len := 3) false rfl hb10 ?_
      refine py_its (pc := 22) (pc1 := 44) (lv1 := [(1, .int (Int8.ofInt 7).toInt32), (0, .ref 69)]) (st1 := [.int (Int8.ofInt 7).toInt32]) 4 (fun _ _ _ _ => rfl) ?_
      refine py_if (pc := 44) (len := 3) true rfl (by decide) ?_
      refine py_its (pc := 114) (pc1 := 117) (lv1 := [(1, .int (Int8.ofInt 7).toInt32), (0, .ref 69)]) (st1 := [.int (Int8.ofInt 98).toInt32, .ref 69]) 2 (fun _ _ _ _ => rfl) ?_
      obtain ⟨q145, hq146, h⟩ := bd_e h
      obtain ⟨hC147, hS148⟩ := fx_M_comes hS9 hq146
      refine py_vi (pc := 117) (mi := mi_M_comes) (cs := [69]) (N := mm_M_comes) rfl rfl rfl rfl List.mem_cons_self hS9 rfl (Nat.le_of_ble_eq_true rfl) (Nat.le_of_ble_eq_true rfl) rfl rfl hC147 ?_
      show px_Y mm_M_readsLine 120 [(1, .int (Int8.ofInt 7).toInt32), (0, .ref 69)] [.int q145.1] q145.2 _ _
      cases hb149 : px_cmp .eq q145.1 0 with
      | true =>
        have h := cd_t hb149 h
        refine py_if (pc := 120) (len := 3) true rfl hb149 ?_
        refine py_its (pc := 127) (pc1 := 130) (lv1 := [(1, .int (Int8.ofInt 7).toInt32), (0, .ref 69)]) (st1 := [.int (Int8.ofInt 116).toInt32, .ref 69]) 2 (fun _ _ _ _ => rfl) ?_
        obtain ⟨q150, hq151, h⟩ := bd_e h
        obtain ⟨hC152, hS153⟩ := fx_M_comes hS148 hq151
        refine py_vi (pc := 130) (mi := mi_M_comes) (cs := [69]) (N := mm_M_comes) rfl rfl rfl rfl List.mem_cons_self hS148 rfl (Nat.le_of_ble_eq_true rfl) (Nat.le_of_ble_eq_true rfl) rfl rfl hC152 ?_
        show px_Y mm_M_readsLine 133 [(1, .int (Int8.ofInt 7).toInt32), (0, .ref 69)] [.int q150.1] q150.2 _ _
        cases hb154 : px_cmp .eq q150.1 0 with
        | true =>
          have h := cd_t hb154 h
          refine py_if (pc := 133) (len := 3) true rfl hb154 ?_
          refine py_its (pc := 140) (pc1 := 143) (lv1 := [(1, .int (Int8.ofInt 7).toInt32), (0, .ref 69)]) (st1 := [.int (Int8.ofInt 108).toInt32, .ref 69]) 2 (fun _ _ _ _ => rfl) ?_
          obtain ⟨q155, hq156, h⟩ := bd_e h
          obtain ⟨hC157, hS158⟩ := fx_M_comes hS153 hq156
          refine py_vi (pc := 143) (mi := mi_M_comes) (cs := [69]) (N := mm_M_comes) rfl rfl rfl rfl List.mem_cons_self hS153 rfl (Nat.le_of_ble_eq_true rfl) (Nat.le_of_ble_eq_true rfl) rfl rfl hC157 ?_
          show px_Y mm_M_readsLine 146 [(1, .int (Int8.ofInt 7).toInt32), (0, .ref 69)] [.int q155.1] q155.2 _ _
          cases hb159 : px_cmp .eq q155.1 0 with
          | true =>
            have h := cd_t hb159 h
            refine py_if (pc := 146) (len := 3) true rfl hb159 ?_
            refine py_its (pc := 153) (pc1 := 156) (lv1 := [(2, .int (Int32.ofInt (-1))), (1, .int (Int8.ofInt 7).toInt32), (0, .ref 69)]) (st1 := [.ref 69]) 3 (fun _ _ _ _ => rfl) ?_
            refine py_g1 86 (pc := 156) (len := 3) (cs := [69]) rfl rfl rfl List.mem_cons_self hS158 ?_
            refine py_its (pc := 159) (pc1 := 160) (lv1 := [(2, .int (Int32.ofInt (-1))), (1, .int (Int8.ofInt 7).toInt32), (0, .ref 69)]) (st1 := [.ref 69, .ref 86]) 1 (fun _ _ _ _ => rfl) ?_
            refine py_gI (pc := 160) (len := 3) (cs := [69]) rfl rfl rfl List.mem_cons_self hS158 ?_
            refine py_its (pc := 163) (pc1 := 164) (lv1 := [(2, .int (Int32.ofInt (-1))), (1, .int (Int8.ofInt 7).toInt32), (0, .ref 69)]) (st1 := [.int (Int8.ofInt 7).toInt32, .int (gI q155.2 69 27), .ref 86]) 1 (fun _ _ _ _ => rfl) ?_
            obtain ⟨hi160, h⟩ := cd_n h
            have h := sb_e h
            refine py_si (pc := 164) (len := 1) (cs := [86]) (t := 43) (n := 8) rfl rfl rfl hi160 List.mem_cons_self hS158 ?_
            have hS162 : oS (uI q155.2 86 (gI q155.2 69 27).toNatClampNeg (Int8.ofInt 7).toInt32) := oS_uI (cs := [86]) (t := 43) (n := 8) rfl List.mem_cons_self hS158
            generalize (uI q155.2 86 (gI q155.2 69 27).toNatClampNeg (Int8.ofInt 7).toInt32) = h161 at h hS162 ⊢
            refine py_its (pc := 165) (pc1 := 166) (lv1 := [(2, .int (Int32.ofInt (-1))), (1, .int (Int8.ofInt 7).toInt32), (0, .ref 69)]) (st1 := [.ref 69]) 1 (fun _ _ _ _ => rfl) ?_
            refine py_g1 87 (pc := 166) (len := 3) (cs := [69]) rfl rfl rfl List.mem_cons_self hS162 ?_
            refine py_its (pc := 169) (pc1 := 170) (lv1 := [(2, .int (Int32.ofInt (-1))), (1, .int (Int8.ofInt 7).toInt32), (0, .ref 69)]) (st1 := [.ref 69, .ref 87]) 1 (fun _ _ _ _ => rfl) ?_
            refine py_gI (pc := 170) (len := 3) (cs := [69]) rfl rfl rfl List.mem_cons_self hS162 ?_
            refine py_its (pc := 173) (pc1 := 174) (lv1 := [(2, .int (Int32.ofInt (-1))), (1, .int (Int8.ofInt 7).toInt32), (0, .ref 69)]) (st1 := [.int (Int32.ofInt (-1)), .int (gI h161 69 27), .ref 87]) 1 (fun _ _ _ _ => rfl) ?_
            obtain ⟨hi163, h⟩ := cd_n h
            have h := sb_e h
            refine py_si (pc := 174) (len := 1) (cs := [87]) (t := 44) (n := 8) rfl rfl rfl hi163 List.mem_cons_self hS162 ?_
            have hS165 : oS (uI h161 87 (gI h161 69 27).toNatClampNeg (Int32.ofInt (-1))) := oS_uI (cs := [87]) (t := 44) (n := 8) rfl List.mem_cons_self hS162
            generalize (uI h161 87 (gI h161 69 27).toNatClampNeg (Int32.ofInt (-1))) = h164 at h hS165 ⊢
            refine py_its (pc := 175) (pc1 := 177) (lv1 := [(2, .int (Int32.ofInt (-1))), (1, .int (Int8.ofInt 7).toInt32), (0, .ref 69)]) (st1 := [.ref 69, .ref 69]) 2 (fun _ _ _ _ => rfl) ?_
            refine py_gI (pc := 177) (len := 3) (cs := [69]) rfl rfl rfl List.mem_cons_self hS165 ?_
            refine py_its (pc := 180) (pc1 := 181) (lv1 := [(2, .int (Int32.ofInt (-1))), (1, .int (Int8.ofInt 7).toInt32), (0, .ref 69)]) (st1 := [.int (Int32.ofInt (-1)), .int (gI h164 69 27), .ref 69]) 1 (fun _ _ _ _ => rfl) ?_
            refine py_if (pc := 181) (len := 3) true rfl (by decide) ?_
            refine py_its (pc := 188) (pc1 := 189) (lv1 := [(2, .int (Int32.ofInt (-1))), (1, .int (Int8.ofInt 7).toInt32), (0, .ref 69)]) (st1 := [.int (Int32.ofInt 0), .int (gI h164 69 27), .ref 69]) 1 (fun _ _ _ _ => rfl) ?_
            obtain ⟨q166, hq167, h⟩ := bd_e h
            have hC168 := (fx_M_flag hS165 hq167).1
            refine py_st (pc := 189) (mi := mi_M_flag) (N := mm_M_flag) rfl rfl rfl (Nat.le_of_ble_eq_true rfl) (Nat.le_of_ble_eq_true rfl) rfl rfl hC168 ?_
            show px_Y mm_M_readsLine 192 [(2, .int (Int32.ofInt (-1))), (1, .int (Int8.ofInt 7).toInt32), (0, .ref 69)] [.int q166, .int (gI h164 69 27), .ref 69] h164 _ _
            refine py_its (pc := 192) (pc1 := 193) (lv1 := [(2, .int (Int32.ofInt (-1))), (1, .int (Int8.ofInt 7).toInt32), (0, .ref 69)]) (st1 := [.int ((gI h164 69 27) + q166), .ref 69]) 1 (fun _ _ _ _ => rfl) ?_
            have h := sb_e h
            refine py_pI (pc := 193) (len := 3) (cs := [69]) rfl rfl rfl List.mem_cons_self hS165 rfl rfl rfl rfl ?_
            have hS170 : oS (wF h164 69 27 (.int ((gI h164 69 27) + q166))) := oS_wI (cs := [69]) (ci := 9) rfl List.mem_cons_self hS165
            generalize (wF h164 69 27 (.int ((gI h164 69 27) + q166))) = h169 at h hS170 ⊢
            refine py_its (pc := 196) (pc1 := 197) (lv1 := [(2, .int (Int32.ofInt (-1))), (1, .int (Int8.ofInt 7).toInt32), (0, .ref 69)]) (st1 := [.int (Int32.ofInt (-1))]) 1 (fun _ _ _ _ => rfl) ?_
            refine py_if (pc := 197) (len := 3) true rfl (by decide) ?_
            refine py_its (pc := 204) (pc1 := 205) (lv1 := [(2, .int (Int32.ofInt (-1))), (1, .int (Int8.ofInt 7).toInt32), (0, .ref 69)]) (st1 := [.int (Int32.ofInt 0)]) 1 (fun _ _ _ _ => rfl) ?_
            have h := Option.some.inj h
            subst h
            exact py_ir (pc := 205) (len := 1) (ty := .boolean) rfl rfl (by decide) hS170
          | false =>
            have h := cd_f hb159 h
            refine py_if (pc := 146) (len := 3) false rfl hb159 ?_
            refine py_its (pc := 149) (pc1 := 156) (lv1 := [(2, .int (Int32.ofInt 2)), (1, .int (Int8.ofInt 7).toInt32), (0, .ref 69)]) (st1 := [.ref 69]) 4 (fun _ _ _ _ => rfl) ?_
            refine py_g1 86 (pc := 156) (len := 3) (cs := [69]) rfl rfl rfl List.mem_cons_self hS158 ?_
            refine py_its (pc := 159) (pc1 := 160) (lv1 := [(2, .int (Int32.ofInt 2)), (1, .int (Int8.ofInt 7).toInt32), (0, .ref 69)]) (st1 := [.ref 69, .ref 86]) 1 (fun _ _ _ _ => rfl) ?_
            refine py_gI (pc := 160) (len := 3) (cs := [69]) rfl rfl rfl List.mem_cons_self hS158 ?_
            refine py_its (pc := 163) (pc1 := 164) (lv1 := [(2, .int (Int32.ofInt 2)), (1, .int (Int8.ofInt 7).toInt32), (0, .ref 69)]) (st1 := [.int (Int8.ofInt 7).toInt32, .int (gI q155.2 69 27), .ref 86]) 1 (fun _ _ _ _ => rfl) ?_
            obtain ⟨hi171, h⟩ := cd_n h
            have h := sb_e h
            refine py_si (pc := 164) (len := 1) (cs := [86]) (t := 43) (n := 8) rfl rfl rfl hi171 List.mem_cons_self hS158 ?_
            have hS173 : oS (uI q155.2 86 (gI q155.2 69 27).toNatClampNeg (Int8.ofInt 7).toInt32) := oS_uI (cs := [86]) (t := 43) (n := 8) rfl List.mem_cons_self hS158
            generalize (uI q155.2 86 (gI q155.2 69 27).toNatClampNeg (Int8.ofInt 7).toInt32) = h172 at h hS173 ⊢
            refine py_its (pc := 165) (pc1 := 166) (lv1 := [(2, .int (Int32.ofInt 2)), (1, .int (Int8.ofInt 7).toInt32), (0, .ref 69)]) (st1 := [.ref 69]) 1 (fun _ _ _ _ => rfl) ?_
            refine py_g1 87 (pc := 166) (len := 3) (cs := [69]) rfl rfl rfl List.mem_cons_self hS173 ?_
            refine py_its (pc := 169) (pc1 := 170) (lv1 := [(2, .int (Int32.ofInt 2)), (1, .int (Int8.ofInt 7).toInt32), (0, .ref 69)]) (st1 := [.ref 69, .ref 87]) 1 (fun _ _ _ _ => rfl) ?_
            refine py_gI (pc := 170) (len := 3) (cs := [69]) rfl rfl rfl List.mem_cons_self hS173 ?_
            refine py_its (pc := 173) (pc1 := 174) (lv1 := [(2, .int (Int32.ofInt 2)), (1, .int (Int8.ofInt 7).toInt32), (0, .ref 69)]) (st1 := [.int (Int32.ofInt 2), .int (gI h172 69 27), .ref 87]) 1 (fun _ _ _ _ => rfl) ?_
            obtain ⟨hi174, h⟩ := cd_n h
            have h := sb_e h
            refine py_si (pc := 174) (len := 1) (cs := [87]) (t := 44) (n := 8) rfl rfl rfl hi174 List.mem_cons_self hS173 ?_
            have hS176 : oS (uI h172 87 (gI h172 69 27).toNatClampNeg (Int32.ofInt 2)) := oS_uI (cs := [87]) (t := 44) (n := 8) rfl List.mem_cons_self hS173
            generalize (uI h172 87 (gI h172 69 27).toNatClampNeg (Int32.ofInt 2)) = h175 at h hS176 ⊢
            refine py_its (pc := 175) (pc1 := 177) (lv1 := [(2, .int (Int32.ofInt 2)), (1, .int (Int8.ofInt 7).toInt32), (0, .ref 69)]) (st1 := [.ref 69, .ref 69]) 2 (fun _ _ _ _ => rfl) ?_
            refine py_gI (pc := 177) (len := 3) (cs := [69]) rfl rfl rfl List.mem_cons_self hS176 ?_
            refine py_its (pc := 180) (pc1 := 181) (lv1 := [(2, .int (Int32.ofInt 2)), (1, .int (Int8.ofInt 7).toInt32), (0, .ref 69)]) (st1 := [.int (Int32.ofInt 2), .int (gI h175 69 27), .ref 69]) 1 (fun _ _ _ _ => rfl) ?_
            refine py_if (pc := 181) (len := 3) false rfl (by decide) ?_
            refine py_its (pc := 184) (pc1 := 189) (lv1 := [(2, .int (Int32.ofInt 2)), (1, .int (Int8.ofInt 7).toInt32), (0, .ref 69)]) (st1 := [.int (Int32.ofInt 1), .int (gI h175 69 27), .ref 69]) 2 (fun _ _ _ _ => rfl) ?_
            obtain ⟨q177, hq178, h⟩ := bd_e h
            have hC179 := (fx_M_flag hS176 hq178).1
            refine py_st (pc := 189) (mi := mi_M_flag) (N := mm_M_flag) rfl rfl rfl (Nat.le_of_ble_eq_true rfl) (Nat.le_of_ble_eq_true rfl) rfl rfl hC179 ?_
            show px_Y mm_M_readsLine 192 [(2, .int (Int32.ofInt 2)), (1, .int (Int8.ofInt 7).toInt32), (0, .ref 69)] [.int q177, .int (gI h175 69 27), .ref 69] h175 _ _
            refine py_its (pc := 192) (pc1 := 193) (lv1 := [(2, .int (Int32.ofInt 2)), (1, .int (Int8.ofInt 7).toInt32), (0, .ref 69)]) (st1 := [.int ((gI h175 69 27) + q177), .ref 69]) 1 (fun _ _ _ _ => rfl) ?_
            have h := sb_e h
            refine py_pI (pc := 193) (len := 3) (cs := [69]) rfl rfl rfl List.mem_cons_self hS176 rfl rfl rfl rfl ?_
            have hS181 : oS (wF h175 69 27 (.int ((gI h175 69 27) + q177))) := oS_wI (cs := [69]) (ci := 9) rfl List.mem_cons_self hS176
            generalize (wF h175 69 27 (.int ((gI h175 69 27) + q177))) = h180 at h hS181 ⊢
            refine py_its (pc := 196) (pc1 := 197) (lv1 := [(2, .int (Int32.ofInt 2)), (1, .int (Int8.ofInt 7).toInt32), (0, .ref 69)]) (st1 := [.int (Int32.ofInt 2)]) 1 (fun _ _ _ _ => rfl) ?_
            refine py_if (pc := 197) (len := 3) false rfl (by decide) ?_
            refine py_its (pc := 200) (pc1 := 205) (lv1 := [(2, .int (Int32.ofInt 2)), (1, .int (Int8.ofInt 7).toInt32), (0, .ref 69)]) (st1 := [.int (Int32.ofInt 1)]) 2 (fun _ _ _ _ => rfl) ?_
            have h := Option.some.inj h
            subst h
            exact py_ir (pc := 205) (len := 1) (ty := .boolean) rfl rfl (by decide) hS181
        | false =>
          have h := cd_f hb154 h
          refine py_if (pc := 133) (len := 3) false rfl hb154 ?_
          refine py_its (pc := 136) (pc1 := 156) (lv1 := [(2, .int (Int32.ofInt 1)), (1, .int (Int8.ofInt 7).toInt32), (0, .ref 69)]) (st1 := [.ref 69]) 4 (fun _ _ _ _ => rfl) ?_
          refine py_g1 86 (pc := 156) (len := 3) (cs := [69]) rfl rfl rfl List.mem_cons_self hS153 ?_
          refine py_its (pc := 159) (pc1 := 160) (lv1 := [(2, .int (Int32.ofInt 1)), (1, .int (Int8.ofInt 7).toInt32), (0, .ref 69)]) (st1 := [.ref 69, .ref 86]) 1 (fun _ _ _ _ => rfl) ?_
          refine py_gI (pc := 160) (len := 3) (cs := [69]) rfl rfl rfl List.mem_cons_self hS153 ?_
          refine py_its (pc := 163) (pc1 := 164) (lv1 := [(2, .int (Int32.ofInt 1)), (1, .int (Int8.ofInt 7).toInt32), (0, .ref 69)]) (st1 := [.int (Int8.ofInt 7).toInt32, .int (gI q150.2 69 27), .ref 86]) 1 (fun _ _ _ _ => rfl) ?_
          obtain ⟨hi182, h⟩ := cd_n h
          have h := sb_e h
          refine py_si (pc := 164) (len := 1) (cs := [86]) (t := 43) (n := 8) rfl rfl rfl hi182 List.mem_cons_self hS153 ?_
          have hS184 : oS (uI q150.2 86 (gI q150.2 69 27).toNatClampNeg (Int8.ofInt 7).toInt32) := oS_uI (cs := [86]) (t := 43) (n := 8) rfl List.mem_cons_self hS153
          generalize (uI q150.2 86 (gI q150.2 69 27).toNatClampNeg (Int8.ofInt 7).toInt32) = h183 at h hS184 ⊢
          refine py_its (pc := 165) (pc1 := 166) (lv1 := [(2, .int (Int32.ofInt 1)), (1, .int (Int8.ofInt 7).toInt32), (0, .ref 69)]) (st1 := [.ref 69]) 1 (fun _ _ _ _ => rfl) ?_
          refine py_g1 87 (pc := 166) (len := 3) (cs := [69]) rfl rfl rfl List.mem_cons_self hS184 ?_
          refine py_its (pc := 169) (pc1 := 170) (lv1 := [(2, .int (Int32.ofInt 1)), (1, .int (Int8.ofInt 7).toInt32), (0, .ref 69)]) (st1 := [.ref 69, .ref 87]) 1 (fun _ _ _ _ => rfl) ?_
          refine py_gI (pc := 170) (len := 3) (cs := [69]) rfl rfl rfl List.mem_cons_self hS184 ?_
          refine py_its (pc := 173) (pc1 := 174) (lv1 := [(2, .int (Int32.ofInt 1)), (1, .int (Int8.ofInt 7).toInt32), (0, .ref 69)]) (st1 := [.int (Int32.ofInt 1), .int (gI h183 69 27), .ref 87]) 1 (fun _ _ _ _ => rfl) ?_
          obtain ⟨hi185, h⟩ := cd_n h
          have h := sb_e h
          refine py_si (pc := 174) (len := 1) (cs := [87]) (t := 44) (n := 8) rfl rfl rfl hi185 List.mem_cons_self hS184 ?_
          have hS187 : oS (uI h183 87 (gI h183 69 27).toNatClampNeg (Int32.ofInt 1)) := oS_uI (cs := [87]) (t := 44) (n := 8) rfl List.mem_cons_self hS184
          generalize (uI h183 87 (gI h183 69 27).toNatClampNeg (Int32.ofInt 1)) = h186 at h hS187 ⊢
          refine py_its (pc := 175) (pc1 := 177) (lv1 := [(2, .int (Int32.ofInt 1)), (1, .int (Int8.ofInt 7).toInt32), (0, .ref 69)]) (st1 := [.ref 69, .ref 69]) 2 (fun _ _ _ _ => rfl) ?_
          refine py_gI (pc := 177) (len := 3) (cs := [69]) rfl rfl rfl List.mem_cons_self hS187 ?_
          refine py_its (pc := 180) (pc1 := 181) (lv1 := [(2, .int (Int32.ofInt 1)), (1, .int (Int8.ofInt 7).toInt32), (0, .ref 69)]) (st1 := [.int (Int32.ofInt 1), .int (gI h186 69 27), .ref 69]) 1 (fun _ _ _ _ => rfl) ?_
          refine py_if (pc := 181) (len := 3) false rfl (by decide) ?_
          refine py_its (pc := 184) (pc1 := 189) (lv1 := [(2, .int (Int32.ofInt 1)), (1, .int (Int8.ofInt 7).toInt32), (0, .ref 69)]) (st1 := [.int (Int32.ofInt 1), .int (gI h186 69 27), .ref 69]) 2 (fun _ _ _ _ => rfl) ?_
          obtain ⟨q188, hq189, h⟩ := bd_e h
          have hC190 := (fx_M_flag hS187 hq189).1
          refine py_st (pc := 189) (mi := mi_M_flag) (N := mm_M_flag) rfl rfl rfl (Nat.le_of_ble_eq_true rfl) (Nat.le_of_ble_eq_true rfl) rfl rfl hC190 ?_
          show px_Y mm_M_readsLine 192 [(2, .int (Int32.ofInt 1)), (1, .int (Int8.ofInt 7).toInt32), (0, .ref 69)] [.int q188, .int (gI h186 69 27), .ref 69] h186 _ _
          refine py_its (pc := 192) (pc1 := 193) (lv1 := [(2, .int (Int32.ofInt 1)), (1, .int (Int8.ofInt 7).toInt32), (0, .ref 69)]) (st1 := [.int ((gI h186 69 27) + q188), .ref 69]) 1 (fun _ _ _ _ => rfl) ?_
          have h := sb_e h
          refine py_pI (pc := 193) (len := 3) (cs := [69]) rfl rfl rfl List.mem_cons_self hS187 rfl rfl rfl rfl ?_
          have hS192 : oS (wF h186 69 27 (.int ((gI h186 69 27) + q188))) := oS_wI (cs := [69]) (ci := 9) rfl List.mem_cons_self hS187
          generalize (wF h186 69 27 (.int ((gI h186 69 27) + q188))) = h191 at h hS192 ⊢
          refine py_its (pc := 196) (pc1 := 197) (lv1 := [(2, .int (Int32.ofInt 1)), (1, .int (Int8.ofInt 7).toInt32), (0, .ref 69)]) (st1 := [.int (Int32.ofInt 1)]) 1 (fun _ _ _ _ => rfl) ?_
          refine py_if (pc := 197) (len := 3) false rfl (by decide) ?_
          refine py_its (pc := 200) (pc1 := 205) (lv1 := [(2, .int (Int32.ofInt 1)), (1, .int (Int8.ofInt 7).toInt32), (0, .ref 69)]) (st1 := [.int (Int32.ofInt 1)]) 2 (fun _ _ _ _ => rfl) ?_
          have h := Option.some.inj h
          subst h
          exact py_ir (pc := 205) (len := 1) (ty := .boolean) rfl rfl (by decide) hS192
      | false =>
        have h := cd_f hb149 h
        refine py_if (pc := 120) (len := 3) false rfl hb149 ?_
        refine py_its (pc := 123) (pc1 := 156) (lv1 := [(2, .int (Int32.ofInt 0)), (1, .int (Int8.ofInt 7).toInt32), (0, .ref 69)]) (st1 := [.ref 69]) 4 (fun _ _ _ _ => rfl) ?_
        refine py_g1 86 (pc := 156) (len := 3) (cs := [69]) rfl rfl rfl List.mem_cons_self hS148 ?_
        refine py_its (pc := 159) (pc1 := 160) (lv1 := [(2, .int (Int32.ofInt 0)), (1, .int (Int8.ofInt 7).toInt32), (0, .ref 69)]) (st1 := [.ref 69, .ref 86]) 1 (fun _ _ _ _ => rfl) ?_
        refine py_gI (pc := 160) (len := 3) (cs := [69]) rfl rfl rfl List.mem_cons_self hS148 ?_
        refine py_its (pc := 163) (pc1 := 164) (lv1 := [(2, .int (Int32.ofInt 0)), (1, .int (Int8.ofInt 7).toInt32), (0, .ref 69)]) (st1 := [.int (Int8.ofInt 7).toInt32, .int (gI q145.2 69 27), .ref 86]) 1 (fun _ _ _ _ => rfl) ?_
        obtain ⟨hi193, h⟩ := cd_n h
        have h := sb_e h
        refine py_si (pc := 164) (len := 1) (cs := [86]) (t := 43) (n := 8) rfl rfl rfl hi193 List.mem_cons_self hS148 ?_
        have hS195 : oS (uI q145.2 86 (gI q145.2 69 27).toNatClampNeg (Int8.ofInt 7).toInt32) := oS_uI (cs := [86]) (t := 43) (n := 8) rfl List.mem_cons_self hS148
        generalize (uI q145.2 86 (gI q145.2 69 27).toNatClampNeg (Int8.ofInt 7).toInt32) = h194 at h hS195 ⊢
        refine py_its (pc := 165) (pc1 := 166) (lv1 := [(2, .int (Int32.ofInt 0)), (1, .int (Int8.ofInt 7).toInt32), (0, .ref 69)]) (st1 := [.ref 69]) 1 (fun _ _ _ _ => rfl) ?_
        refine py_g1 87 (pc := 166) (len := 3) (cs := [69]) rfl rfl rfl List.mem_cons_self hS195 ?_
        refine py_its (pc := 169) (pc1 := 170) (lv1 := [(2, .int (Int32.ofInt 0)), (1, .int (Int8.ofInt 7).toInt32), (0, .ref 69)]) (st1 := [.ref 69, .ref 87]) 1 (fun _ _ _ _ => rfl) ?_
        refine py_gI (pc := 170) (len := 3) (cs := [69]) rfl rfl rfl List.mem_cons_self hS195 ?_
        refine py_its (pc := 173) (pc1 := 174) (lv1 := [(2, .int (Int32.ofInt 0)), (1, .int (Int8.ofInt 7).toInt32), (0, .ref 69)]) (st1 := [.int (Int32.ofInt 0), .int (gI h194 69 27), .ref 87]) 1 (fun _ _ _ _ => rfl) ?_
        obtain ⟨hi196, h⟩ := cd_n h
        have h := sb_e h
        refine py_si (pc := 174) (len := 1) (cs := [87]) (t := 44) (n := 8) rfl rfl rfl hi196 List.mem_cons_self hS195 ?_
        have hS198 : oS (uI h194 87 (gI h194 69 27).toNatClampNeg (Int32.ofInt 0)) := oS_uI (cs := [87]) (t := 44) (n := 8) rfl List.mem_cons_self hS195
        generalize (uI h194 87 (gI h194 69 27).toNatClampNeg (Int32.ofInt 0)) = h197 at h hS198 ⊢
        refine py_its (pc := 175) (pc1 := 177) (lv1 := [(2, .int (Int32.ofInt 0)), (1, .int (Int8.ofInt 7).toInt32), (0, .ref 69)]) (st1 := [.ref 69, .ref 69]) 2 (fun _ _ _ _ => rfl) ?_
        refine py_gI (pc := 177) (len := 3) (cs := [69]) rfl rfl rfl List.mem_cons_self hS198 ?_
        refine py_its (pc := 180) (pc1 := 181) (lv1 := [(2, .int (Int32.ofInt 0)), (1, .int (Int8.ofInt 7).toInt32), (0, .ref 69)]) (st1 := [.int (Int32.ofInt 0), .int (gI h197 69 27), .ref 69]) 1 (fun _ _ _ _ => rfl) ?_
        refine py_if (pc := 181) (len := 3) false rfl (by decide) ?_
        refine py_its (pc := 184) (pc1 := 189) (lv1 := [(2, .int (Int32.ofInt 0)), (1, .int (Int8.ofInt 7).toInt32), (0, .ref 69)]) (st1 := [.int (Int32.ofInt 1), .int (gI h197 69 27), .ref 69]) 2 (fun _ _ _ _ => rfl) ?_
        obtain ⟨q199, hq200, h⟩ := bd_e h
        have hC201 := (fx_M_flag hS198 hq200).1
        refine py_st (pc := 189) (mi := mi_M_flag) (N := mm_M_flag) rfl rfl rfl (Nat.le_of_ble_eq_true rfl) (Nat.le_of_ble_eq_true rfl) rfl rfl hC201 ?_
        show px_Y mm_M_readsLine 192 [(2, .int (Int32.ofInt 0)), (1, .int (Int8.ofInt 7).toInt32), (0, .ref 69)] [.int q199, .int (gI h197 69 27), .ref 69] h197 _ _
        refine py_its (pc := 192) (pc1 := 193) (lv1 := [(2, .int (Int32.ofInt 0)), (1, .int (Int8.ofInt 7).toInt32), (0, .ref 69)]) (st1 := [.int ((gI h197 69 27) + q199), .ref 69]) 1 (fun _ _ _ _ => rfl) ?_
        have h := sb_e h
        refine py_pI (pc := 193) (len := 3) (cs := [69]) rfl rfl rfl List.mem_cons_self hS198 rfl rfl rfl rfl ?_
        have hS203 : oS (wF h197 69 27 (.int ((gI h197 69 27) + q199))) := oS_wI (cs := [69]) (ci := 9) rfl List.mem_cons_self hS198
        generalize (wF h197 69 27 (.int ((gI h197 69 27) + q199))) = h202 at h hS203 ⊢
        refine py_its (pc := 196) (pc1 := 197) (lv1 := [(2, .int (Int32.ofInt 0)), (1, .int (Int8.ofInt 7).toInt32), (0, .ref 69)]) (st1 := [.int (Int32.ofInt 0)]) 1 (fun _ _ _ _ => rfl) ?_
        refine py_if (pc := 197) (len := 3) false rfl (by decide) ?_
        refine py_its (pc := 200) (pc1 := 205) (lv1 := [(2, .int (Int32.ofInt 0)), (1, .int (Int8.ofInt 7).toInt32), (0, .ref 69)]) (st1 := [.int (Int32.ofInt 1)]) 2 (fun _ _ _ _ => rfl) ?_
        have h := Option.some.inj h
        subst h
        exact py_ir (pc := 205) (len := 1) (ty := .boolean) rfl rfl (by decide) hS203
  | false =>
    have h := cd_f hb5 h
    refine py_if (pc := 6) (len := 3) false rfl hb5 ?_
    refine py_its (pc := 9) (pc1 := 44) (lv1 := [(1, .int (Int32.ofInt 0)), (0, .ref 69)]) (st1 := [.int (Int32.ofInt 0)]) 4 (fun _ _ _ _ => rfl) ?_
    refine py_if (pc := 44) (len := 3) true rfl (by decide) ?_
    refine py_its (pc := 114) (pc1 := 117) (lv1 := [(1, .int (Int32.ofInt 0)), (0, .ref 69)]) (st1 := [.int (Int8.ofInt 98).toInt32, .ref 69]) 2 (fun _ _ _ _ => rfl) ?_
    obtain ⟨q204, hq205, h⟩ := bd_e h
    obtain ⟨hC206, hS207⟩ := fx_M_comes hS4 hq205
    refine py_vi (pc := 117) (mi := mi_M_comes) (cs := [69]) (N := mm_M_comes) rfl rfl rfl rfl List.mem_cons_self hS4 rfl (Nat.le_of_ble_eq_true rfl) (Nat.le_of_ble_eq_true rfl) rfl rfl hC206 ?_
    show px_Y mm_M_readsLine 120 [(1, .int (Int32.ofInt 0)), (0, .ref 69)] [.int q204.1] q204.2 _ _
    cases hb208 : px_cmp .eq q204.1 0 with
    | true =>
      have h := cd_t hb208 h
      refine py_if (pc := 120) (len := 3) true rfl hb208 ?_
      refine py_its (pc := 127) (pc1 := 130) (lv1 := [(1, .int (Int32.ofInt 0)), (0, .ref 69)]) (st1 := [.int (Int8.ofInt 116).toInt32, .ref 69]) 2 (fun _ _ _ _ => rfl) ?_
      obtain ⟨q209, hq210, h⟩ := bd_e h
      obtain ⟨hC211, hS212⟩ := fx_M_comes hS207 hq210
      refine py_vi (pc := 130) (mi := mi_M_comes) (cs := [69]) (N := mm_M_comes) rfl rfl rfl rfl List.mem_cons_self hS207 rfl (Nat.le_of_ble_eq_true rfl) (Nat.le_of_ble_eq_true rfl) rfl rfl hC211 ?_
      show px_Y mm_M_readsLine 133 [(1, .int (Int32.ofInt 0)), (0, .ref 69)] [.int q209.1] q209.2 _ _
      cases hb213 : px_cmp .eq q209.1 0 with
      | true =>
        have h := cd_t hb213 h
        refine py_if (pc := 133) (len := 3) true rfl hb213 ?_
        refine py_its (pc := 140) (pc1 := 143) (lv1 := [(1, .int (Int32.ofInt 0)), (0, .ref 69)]) (st1 := [.int (Int8.ofInt 108).toInt32, .ref 69]) 2 (fun _ _ _ _ => rfl) ?_
        obtain ⟨q214, hq215, h⟩ := bd_e h
        obtain ⟨hC216, hS217⟩ := fx_M_comes hS212 hq215
        refine py_vi (pc := 143) (mi := mi_M_comes) (cs := [69]) (N := mm_M_comes) rfl rfl rfl rfl List.mem_cons_self hS212 rfl (Nat.le_of_ble_eq_true rfl) (Nat.le_of_ble_eq_true rfl) rfl rfl hC216 ?_
        show px_Y mm_M_readsLine 146 [(1, .int (Int32.ofInt 0)), (0, .ref 69)] [.int q214.1] q214.2 _ _
        cases hb218 : px_cmp .eq q214.1 0 with
        | true =>
          have h := cd_t hb218 h
          refine py_if (pc := 146) (len := 3) true rfl hb218 ?_
          refine py_its (pc := 153) (pc1 := 156) (lv1 := [(2, .int (Int32.ofInt (-1))), (1, .int (Int32.ofInt 0)), (0, .ref 69)]) (st1 := [.ref 69]) 3 (fun _ _ _ _ => rfl) ?_
          refine py_g1 86 (pc := 156) (len := 3) (cs := [69]) rfl rfl rfl List.mem_cons_self hS217 ?_
          refine py_its (pc := 159) (pc1 := 160) (lv1 := [(2, .int (Int32.ofInt (-1))), (1, .int (Int32.ofInt 0)), (0, .ref 69)]) (st1 := [.ref 69, .ref 86]) 1 (fun _ _ _ _ => rfl) ?_
          refine py_gI (pc := 160) (len := 3) (cs := [69]) rfl rfl rfl List.mem_cons_self hS217 ?_
          refine py_its (pc := 163) (pc1 := 164) (lv1 := [(2, .int (Int32.ofInt (-1))), (1, .int (Int32.ofInt 0)), (0, .ref 69)]) (st1 := [.int (Int32.ofInt 0), .int (gI q214.2 69 27), .ref 86]) 1 (fun _ _ _ _ => rfl) ?_
          obtain ⟨hi219, h⟩ := cd_n h
          have h := sb_e h
          refine py_si (pc := 164) (len := 1) (cs := [86]) (t := 43) (n := 8) rfl rfl rfl hi219 List.mem_cons_self hS217 ?_
          have hS221 : oS (uI q214.2 86 (gI q214.2 69 27).toNatClampNeg (Int32.ofInt 0)) := oS_uI (cs := [86]) (t := 43) (n := 8) rfl List.mem_cons_self hS217
          generalize (uI q214.2 86 (gI q214.2 69 27).toNatClampNeg (Int32.ofInt 0)) = h220 at h hS221 ⊢
          refine py_its (pc := 165) (pc1 := 166) (lv1 := [(2, .int (Int32.ofInt (-1))), (1, .int (Int32.ofInt 0)), (0, .ref 69)]) (st1 := [.ref 69]) 1 (fun _ _ _ _ => rfl) ?_
          refine py_g1 87 (pc := 166) (len := 3) (cs := [69]) rfl rfl rfl List.mem_cons_self hS221 ?_
          refine py_its (pc := 169) (pc1 := 170) (lv1 := [(2, .int (Int32.ofInt (-1))), (1, .int (Int32.ofInt 0)), (0, .ref 69)]) (st1 := [.ref 69, .ref 87]) 1 (fun _ _ _ _ => rfl) ?_
          refine py_gI (pc := 170) (len := 3) (cs := [69]) rfl rfl rfl List.mem_cons_self hS221 ?_
          refine py_its (pc := 173) (pc1 := 174) (lv1 := [(2, .int (Int32.ofInt (-1))), (1, .int (Int32.ofInt 0)), (0, .ref 69)]) (st1 := [.int (Int32.ofInt (-1)), .int (gI h220 69 27), .ref 87]) 1 (fun _ _ _ _ => rfl) ?_
          obtain ⟨hi222, h⟩ := cd_n h
          have h := sb_e h
          refine py_si (pc := 174) (len := 1) (cs := [87]) (t := 44) (n := 8) rfl rfl rfl hi222 List.mem_cons_self hS221 ?_
          have hS224 : oS (uI h220 87 (gI h220 69 27).toNatClampNeg (Int32.ofInt (-1))) := oS_uI (cs := [87]) (t := 44) (n := 8) rfl List.mem_cons_self hS221
          generalize (uI h220 87 (gI h220 69 27).toNatClampNeg (Int32.ofInt (-1))) = h223 at h hS224 ⊢
          refine py_its (pc := 175) (pc1 := 177) (lv1 := [(2, .int (Int32.ofInt (-1))), (1, .int (Int32.ofInt 0)), (0, .ref 69)]) (st1 := [.ref 69, .ref 69]) 2 (fun _ _ _ _ => rfl) ?_
          refine py_gI (pc := 177) (len := 3) (cs := [69]) rfl rfl rfl List.mem_cons_self hS224 ?_
          refine py_its (pc := 180) (pc1 := 181) (lv1 := [(2, .int (Int32.ofInt (-1))), (1, .int (Int32.ofInt 0)), (0, .ref 69)]) (st1 := [.int (Int32.ofInt (-1)), .int (gI h223 69 27), .ref 69]) 1 (fun _ _ _ _ => rfl) ?_
          refine py_if (pc := 181) (len := 3) true rfl (by decide) ?_
          refine py_its (pc := 188) (pc1 := 189) (lv1 := [(2, .int (Int32.ofInt (-1))), (1, .int (Int32.ofInt 0)), (0, .ref 69)]) (st1 := [.int (Int32.ofInt 0), .int (gI h223 69 27), .ref 69]) 1 (fun _ _ _ _ => rfl) ?_
          obtain ⟨q225, hq226, h⟩ := bd_e h
          have hC227 := (fx_M_flag hS224 hq226).1
          refine py_st (pc := 189) (mi := mi_M_flag) (N := mm_M_flag) rfl rfl rfl (Nat.le_of_ble_eq_true rfl) (Nat.le_of_ble_eq_true rfl) rfl rfl hC227 ?_
          show px_Y mm_M_readsLine 192 [(2, .int (Int32.ofInt (-1))), (1, .int (Int32.ofInt 0)), (0, .ref 69)] [.int q225, .int (gI h223 69 27), .ref 69] h223 _ _
          refine py_its (pc := 192) (pc1 := 193) (lv1 := [(2, .int (Int32.ofInt (-1))), (1, .int (Int32.ofInt 0)), (0, .ref 69)]) (st1 := [.int ((gI h223 69 27) + q225), .ref 69]) 1 (fun _ _ _ _ => rfl) ?_
          have h := sb_e h
          refine py_pI (pc := 193) (len := 3) (cs := [69]) rfl rfl rfl List.mem_cons_self hS224 rfl rfl rfl rfl ?_
          have hS229 : oS (wF h223 69 27 (.int ((gI h223 69 27) + q225))) := oS_wI (cs := [69]) (ci := 9) rfl List.mem_cons_self hS224
          generalize (wF h223 69 27 (.int ((gI h223 69 27) + q225))) = h228 at h hS229 ⊢
          refine py_its (pc := 196) (pc1 := 197) (lv1 := [(2, .int (Int32.ofInt (-1))), (1, .int (Int32.ofInt 0)), (0, .ref 69)]) (st1 := [.int (Int32.ofInt (-1))]) 1 (fun _ _ _ _ => rfl) ?_
          refine py_if (pc := 197) (len := 3) true rfl (by decide) ?_
          refine py_its (pc := 204) (pc1 := 205) (lv1 := [(2, .int (Int32.ofInt (-1))), (1, .int (Int32.ofInt 0)), (0, .ref 69)]) (st1 := [.int (Int32.ofInt 0)]) 1 (fun _ _ _ _ => rfl) ?_
          have h := Option.some.inj h
          subst h
          exact py_ir (pc := 205) (len := 1) (ty := .boolean) rfl rfl (by decide) hS229
        | false =>
          have h := cd_f hb218 h
          refine py_if (pc := 146) (len := 3) false rfl hb218 ?_
          refine py_its (pc := 149) (pc1 := 156) (lv1 := [(2, .int (Int32.ofInt 2)), (1, .int (Int32.ofInt 0)), (0, .ref 69)]) (st1 := [.ref 69]) 4 (fun _ _ _ _ => rfl) ?_
          refine py_g1 86 (pc := 156) (len := 3) (cs := [69]) rfl rfl rfl List.mem_cons_self hS217 ?_
          refine py_its (pc := 159) (pc1 := 160) (lv1 := [(2, .int (Int32.ofInt 2)), (1, .int (Int32.ofInt 0)), (0, .ref 69)]) (st1 := [.ref 69, .ref 86]) 1 (fun _ _ _ _ => rfl) ?_
          refine py_gI (pc := 160) (len := 3) (cs := [69]) rfl rfl rfl List.mem_cons_self hS217 ?_
          refine py_its (pc := 163) (pc1 := 164) (lv1 := [(2, .int (Int32.ofInt 2)), (1, .int (Int32.ofInt 0)), (0, .ref 69)]) (st1 := [.int (Int32.ofInt 0), .int (gI q214.2 69 27), .ref 86]) 1 (fun _ _ _ _ => rfl) ?_
          obtain ⟨hi230, h⟩ := cd_n h
          have h := sb_e h
          refine py_si (pc := 164) (len := 1) (cs := [86]) (t := 43) (n := 8) rfl rfl rfl hi230 List.mem_cons_self hS217 ?_
          have hS232 : oS (uI q214.2 86 (gI q214.2 69 27).toNatClampNeg (Int32.ofInt 0)) := oS_uI (cs := [86]) (t := 43) (n := 8) rfl List.mem_cons_self hS217
          generalize (uI q214.2 86 (gI q214.2 69 27).toNatClampNeg (Int32.ofInt 0)) = h231 at h hS232 ⊢
          refine py_its (pc := 165) (pc1 := 166) (lv1 := [(2, .int (Int32.ofInt 2)), (1, .int (Int32.ofInt 0)), (0, .ref 69)]) (st1 := [.ref 69]) 1 (fun _ _ _ _ => rfl) ?_
          refine py_g1 87 (pc := 166) (len := 3) (cs := [69]) rfl rfl rfl List.mem_cons_self hS232 ?_
          refine py_its (pc := 169) (pc1 := 170) (lv1 := [(2, .int (Int32.ofInt 2)), (1, .int (Int32.ofInt 0)), (0, .ref 69)]) (st1 := [.ref 69, .ref 87]) 1 (fun _ _ _ _ => rfl) ?_
          refine py_gI (pc := 170) (len := 3) (cs := [69]) rfl rfl rfl List.mem_cons_self hS232 ?_
          refine py_its (pc := 173) (pc1 := 174) (lv1 := [(2, .int (Int32.ofInt 2)), (1, .int (Int32.ofInt 0)), (0, .ref 69)]) (st1 := [.int (Int32.ofInt 2), .int (gI h231 69 27), .ref 87]) 1 (fun _ _ _ _ => rfl) ?_
          obtain ⟨hi233, h⟩ := cd_n h
          have h := sb_e h
          refine py_si (pc := 174) (len := 1) (cs := [87]) (t := 44) (n := 8) rfl rfl rfl hi233 List.mem_cons_self hS232 ?_
          have hS235 : oS (uI h231 87 (gI h231 69 27).toNatClampNeg (Int32.ofInt 2)) := oS_uI (cs := [87]) (t := 44) (n := 8) rfl List.mem_cons_self hS232
          generalize (uI h231 87 (gI h231 69 27).toNatClampNeg (Int32.ofInt 2)) = h234 at h hS235 ⊢
          refine py_its (pc := 175) (pc1 := 177) (lv1 := [(2, .int (Int32.ofInt 2)), (1, .int (Int32.ofInt 0)), (0, .ref 69)]) (st1 := [.ref 69, .ref 69]) 2 (fun _ _ _ _ => rfl) ?_
          refine py_gI (pc := 177) (len := 3) (cs := [69]) rfl rfl rfl List.mem_cons_self hS235 ?_
          refine py_its (pc := 180) (pc1 := 181) (lv1 := [(2, .int (Int32.ofInt 2)), (1, .int (Int32.ofInt 0)), (0, .ref 69)]) (st1 := [.int (Int32.ofInt 2), .int (gI h234 69 27), .ref 69]) 1 (fun _ _ _ _ => rfl) ?_
          refine py_if (pc := 181) (len := 3) false rfl (by decide) ?_
          refine py_its (pc := 184) (pc1 := 189) (lv1 := [(2, .int (Int32.ofInt 2)), (1, .int (Int32.ofInt 0)), (0, .ref 69)]) (st1 := [.int (Int32.ofInt 1), .int (gI h234 69 27), .ref 69]) 2 (fun _ _ _ _ => rfl) ?_
          obtain ⟨q236, hq237, h⟩ := bd_e h
          have hC238 := (fx_M_flag hS235 hq237).1
          refine py_st (pc := 189) (mi := mi_M_flag) (N := mm_M_flag) rfl rfl rfl (Nat.le_of_ble_eq_true rfl) (Nat.le_of_ble_eq_true rfl) rfl rfl hC238 ?_
          show px_Y mm_M_readsLine 192 [(2, .int (Int32.ofInt 2)), (1, .int (Int32.ofInt 0)), (0, .ref 69)] [.int q236, .int (gI h234 69 27), .ref 69] h234 _ _
          refine py_its (pc := 192) (pc1 := 193) (lv1 := [(2, .int (Int32.ofInt 2)), (1, .int (Int32.ofInt 0)), (0, .ref 69)]) (st1 := [.int ((gI h234 69 27) + q236), .ref 69]) 1 (fun _ _ _ _ => rfl) ?_
          have h := sb_e h
          refine py_pI (pc := 193) (len := 3) (cs := [69]) rfl rfl rfl List.mem_cons_self hS235 rfl rfl rfl rfl ?_
          have hS240 : oS (wF h234 69 27 (.int ((gI h234 69 27) + q236))) := oS_wI (cs := [69]) (ci := 9) rfl List.mem_cons_self hS235
          generalize (wF h234 69 27 (.int ((gI h234 69 27) + q236))) = h239 at h hS240 ⊢
          refine py_its (pc := 196) (pc1 := 197) (lv1 := [(2, .int (Int32.ofInt 2)), (1, .int (Int32.ofInt 0)), (0, .ref 69)]) (st1 := [.int (Int32.ofInt 2)]) 1 (fun _ _ _ _ => rfl) ?_
          refine py_if (pc := 197) (len := 3) false rfl (by decide) ?_
          refine py_its (pc := 200) (pc1 := 205) (lv1 := [(2, .int (Int32.ofInt 2)), (1, .int (Int32.ofInt 0)), (0, .ref 69)]) (st1 := [.int (Int32.ofInt 1)]) 2 (fun _ _ _ _ => rfl) ?_
          have h := Option.some.inj h
          subst h
          exact py_ir (pc := 205) (len := 1) (ty := .boolean) rfl rfl (by decide) hS240
      | false =>
        have h := cd_f hb213 h
        refine py_if (pc := 133) (len := 3) false rfl hb213 ?_
        refine py_its (pc := 136) (pc1 := 156) (lv1 := [(2, .int (Int32.ofInt 1)), (1, .int (Int32.ofInt 0)), (0, .ref 69)]) (st1 := [.ref 69]) 4 (fun _ _ _ _ => rfl) ?_
        refine py_g1 86 (pc := 156) (len := 3) (cs := [69]) rfl rfl rfl List.mem_cons_self hS212 ?_
        refine py_its (pc := 159) (pc1 := 160) (lv1 := [(2, .int (Int32.ofInt 1)), (1, .int (Int32.ofInt 0)), (0, .ref 69)]) (st1 := [.ref 69, .ref 86]) 1 (fun _ _ _ _ => rfl) ?_
        refine py_gI (pc := 160) (len := 3) (cs := [69]) rfl rfl rfl List.mem_cons_self hS212 ?_
        refine py_its (pc := 163) (pc1 := 164) (lv1 := [(2, .int (Int32.ofInt 1)), (1, .int (Int32.ofInt 0)), (0, .ref 69)]) (st1 := [.int (Int32.ofInt 0), .int (gI q209.2 69 27), .ref 86]) 1 (fun _ _ _ _ => rfl) ?_
        obtain ⟨hi241, h⟩ := cd_n h
        have h := sb_e h
        refine py_si (pc := 164) (len := 1) (cs := [86]) (t := 43) (n := 8) rfl rfl rfl hi241 List.mem_cons_self hS212 ?_
        have hS243 : oS (uI q209.2 86 (gI q209.2 69 27).toNatClampNeg (Int32.ofInt 0)) := oS_uI (cs := [86]) (t := 43) (n := 8) rfl List.mem_cons_self hS212
        generalize (uI q209.2 86 (gI q209.2 69 27).toNatClampNeg (Int32.ofInt 0)) = h242 at h hS243 ⊢
        refine py_its (pc := 165) (pc1 := 166) (lv1 := [(2, .int (Int32.ofInt 1)), (1, .int (Int32.ofInt 0)), (0, .ref 69)]) (st1 := [.ref 69]) 1 (fun _ _ _ _ => rfl) ?_
        refine py_g1 87 (pc := 166) (len := 3) (cs := [69]) rfl rfl rfl List.mem_cons_self hS243 ?_
        refine py_its (pc := 169) (pc1 := 170) (lv1 := [(2, .int (Int32.ofInt 1)), (1, .int (Int32.ofInt 0)), (0, .ref 69)]) (st1 := [.ref 69, .ref 87]) 1 (fun _ _ _ _ => rfl) ?_
        refine py_gI (pc := 170) (len := 3) (cs := [69]) rfl rfl rfl List.mem_cons_self hS243 ?_
        refine py_its (pc := 173) (pc1 := 174) (lv1 := [(2, .int (Int32.ofInt 1)), (1, .int (Int32.ofInt 0)), (0, .ref 69)]) (st1 := [.int (Int32.ofInt 1), .int (gI h242 69 27), .ref 87]) 1 (fun _ _ _ _ => rfl) ?_
        obtain ⟨hi244, h⟩ := cd_n h
        have h := sb_e h
        refine py_si (pc := 174) (len := 1) (cs := [87]) (t := 44) (n := 8) rfl rfl rfl hi244 List.mem_cons_self hS243 ?_
        have hS246 : oS (uI h242 87 (gI h242 69 27).toNatClampNeg (Int32.ofInt 1)) := oS_uI (cs := [87]) (t := 44) (n := 8) rfl List.mem_cons_self hS243
        generalize (uI h242 87 (gI h242 69 27).toNatClampNeg (Int32.ofInt 1)) = h245 at h hS246 ⊢
        refine py_its (pc := 175) (pc1 := 177) (lv1 := [(2, .int (Int32.ofInt 1)), (1, .int (Int32.ofInt 0)), (0, .ref 69)]) (st1 := [.ref 69, .ref 69]) 2 (fun _ _ _ _ => rfl) ?_
        refine py_gI (pc := 177) (len := 3) (cs := [69]) rfl rfl rfl List.mem_cons_self hS246 ?_
        refine py_its (pc := 180) (pc1 := 181) (lv1 := [(2, .int (Int32.ofInt 1)), (1, .int (Int32.ofInt 0)), (0, .ref 69)]) (st1 := [.int (Int32.ofInt 1), .int (gI h245 69 27), .ref 69]) 1 (fun _ _ _ _ => rfl) ?_
        refine py_if (pc := 181) (len := 3) false rfl (by decide) ?_
        refine py_its (pc := 184) (pc1 := 189) (lv1 := [(2, .int (Int32.ofInt 1)), (1, .int (Int32.ofInt 0)), (0, .ref 69)]) (st1 := [.int (Int32.ofInt 1), .int (gI h245 69 27), .ref 69]) 2 (fun _ _ _ _ => rfl) ?_
        obtain ⟨q247, hq248, h⟩ := bd_e h
        have hC249 := (fx_M_flag hS246 hq248).1
        refine py_st (pc := 189) (mi := mi_M_flag) (N := mm_M_flag) rfl rfl rfl (Nat.le_of_ble_eq_true rfl) (Nat.le_of_ble_eq_true rfl) rfl rfl hC249 ?_
        show px_Y mm_M_readsLine 192 [(2, .int (Int32.ofInt 1)), (1, .int (Int32.ofInt 0)), (0, .ref 69)] [.int q247, .int (gI h245 69 27), .ref 69] h245 _ _
        refine py_its (pc := 192) (pc1 := 193) (lv1 := [(2, .int (Int32.ofInt 1)), (1, .int (Int32.ofInt 0)), (0, .ref 69)]) (st1 := [.int ((gI h245 69 27) + q247), .ref 69]) 1 (fun _ _ _ _ => rfl) ?_
        have h := sb_e h
        refine py_pI (pc := 193) (len := 3) (cs := [69]) rfl rfl rfl List.mem_cons_self hS246 rfl rfl rfl rfl ?_
        have hS251 : oS (wF h245 69 27 (.int ((gI h245 69 27) + q247))) := oS_wI (cs := [69]) (ci := 9) rfl List.mem_cons_self hS246
        generalize (wF h245 69 27 (.int ((gI h245 69 27) + q247))) = h250 at h hS251 ⊢
        refine py_its (pc := 196) (pc1 := 197) (lv1 := [(2, .int (Int32.ofInt 1)), (1, .int (Int32.ofInt 0)), (0, .ref 69)]) (st1 := [.int (Int32.ofInt 1)]) 1 (fun _ _ _ _ => rfl) ?_
        refine py_if (pc := 197) (len := 3) false rfl (by decide) ?_
        refine py_its (pc := 200) (pc1 := 205) (lv1 := [(2, .int (Int32.ofInt 1)), (1, .int (Int32.ofInt 0)), (0, .ref 69)]) (st1 := [.int (Int32.ofInt 1)]) 2 (fun _ _ _ _ => rfl) ?_
        have h := Option.some.inj h
        subst h
        exact py_ir (pc := 205) (len := 1) (ty := .boolean) rfl rfl (by decide) hS251
    | false =>
      have h := cd_f hb208 h
      refine py_if (pc := 120) (len := 3) false rfl hb208 ?_
      refine py_its (pc := 123) (pc1 := 156) (lv1 := [(2, .int (Int32.ofInt 0)), (1, .int (Int32.ofInt 0)), (0, .ref 69)]) (st1 := [.ref 69]) 4 (fun _ _ _ _ => rfl) ?_
      refine py_g1 86 (pc := 156) (len := 3) (cs := [69]) rfl rfl rfl List.mem_cons_self hS207 ?_
      refine py_its (pc := 159) (pc1 := 160) (lv1 := [(2, .int (Int32.ofInt 0)), (1, .int (Int32.ofInt 0)), (0, .ref 69)]) (st1 := [.ref 69, .ref 86]) 1 (fun _ _ _ _ => rfl) ?_
      refine py_gI (pc := 160) (len := 3) (cs := [69]) rfl rfl rfl List.mem_cons_self hS207 ?_
      refine py_its (pc := 163) (pc1 := 164) (lv1 := [(2, .int (Int32.ofInt 0)), (1, .int (Int32.ofInt 0)), (0, .ref 69)]) (st1 := [.int (Int32.ofInt 0), .int (gI q204.2 69 27), .ref 86]) 1 (fun _ _ _ _ => rfl) ?_
      obtain ⟨hi252, h⟩ := cd_n h
      have h := sb_e h
      refine py_si (pc := 164) (len := 1) (cs := [86]) (t := 43) (n := 8) rfl rfl rfl hi252 List.mem_cons_self hS207 ?_
      have hS254 : oS (uI q204.2 86 (gI q204.2 69 27).toNatClampNeg (Int32.ofInt 0)) := oS_uI (cs := [86]) (t := 43) (n := 8) rfl List.mem_cons_self hS207
      generalize (uI q204.2 86 (gI q204.2 69 27).toNatClampNeg (Int32.ofInt 0)) = h253 at h hS254 ⊢
      refine py_its (pc := 165) (pc1 := 166) (lv1 := [(2, .int (Int32.ofInt 0)), (1, .int (Int32.ofInt 0)), (0, .ref 69)]) (st1 := [.ref 69]) 1 (fun _ _ _ _ => rfl) ?_
      refine py_g1 87 (pc := 166) (len := 3) (cs := [69]) rfl rfl rfl List.mem_cons_self hS254 ?_
      refine py_its (pc := 169) (pc1 := 170) (lv1 := [(2, .int (Int32.ofInt 0)), (1, .int (Int32.ofInt 0)), (0, .ref 69)]) (st1 := [.ref 69, .ref 87]) 1 (fun _ _ _ _ => rfl) ?_
      refine py_gI (pc := 170) (len := 3) (cs := [69]) rfl rfl rfl List.mem_cons_self hS254 ?_
      refine py_its (pc := 173) (pc1 := 174) (lv1 := [(2, .int (Int32.ofInt 0)), (1, .int (Int32.ofInt 0)), (0, .ref 69)]) (st1 := [.int (Int32.ofInt 0), .int (gI h253 69 27), .ref 87]) 1 (fun _ _ _ _ => rfl) ?_
      obtain ⟨hi255, h⟩ := cd_n h
      have h := sb_e h
      refine py_si (pc := 174) (len := 1) (cs := [87]) (t := 44) (n := 8) rfl rfl rfl hi255 List.mem_cons_self hS254 ?_
      have hS257 : oS (uI h253 87 (gI h253 69 27).toNatClampNeg (Int32.ofInt 0)) := oS_uI (cs := [87]) (t := 44) (n := 8) rfl List.mem_cons_self hS254
      generalize (uI h253 87 (gI h253 69 27).toNatClampNeg (Int32.ofInt 0)) = h256 at h hS257 ⊢
      refine py_its (pc := 175) (pc1 := 177) (lv1 := [(2, .int (Int32.ofInt 0)), (1, .int (Int32.ofInt 0)), (0, .ref 69)]) (st1 := [.ref 69, .ref 69]) 2 (fun _ _ _ _ => rfl) ?_
      refine py_gI (pc := 177) (len := 3) (cs := [69]) rfl rfl rfl List.mem_cons_self hS257 ?_
      refine py_its (pc := 180) (pc1 := 181) (lv1 := [(2, .int (Int32.ofInt 0)), (1, .int (Int32.ofInt 0)), (0, .ref 69)]) (st1 := [.int (Int32.ofInt 0), .int (gI h256 69 27), .ref 69]) 1 (fun _ _ _ _ => rfl) ?_
      refine py_if (pc := 181) (len := 3) false rfl (by decide) ?_
      refine py_its (pc := 184) (pc1 := 189) (lv1 := [(2, .int (Int32.ofInt 0)), (1, .int (Int32.ofInt 0)), (0, .ref 69)]) (st1 := [.int (Int32.ofInt 1), .int (gI h256 69 27), .ref 69]) 2 (fun _ _ _ _ => rfl) ?_
      obtain ⟨q258, hq259, h⟩ := bd_e h
      have hC260 := (fx_M_flag hS257 hq259).1
      refine py_st (pc := 189) (mi := mi_M_flag) (N := mm_M_flag) rfl rfl rfl (Nat.le_of_ble_eq_true rfl) (Nat.le_of_ble_eq_true rfl) rfl rfl hC260 ?_
      show px_Y mm_M_readsLine 192 [(2, .int (Int32.ofInt 0)), (1, .int (Int32.ofInt 0)), (0, .ref 69)] [.int q258, .int (gI h256 69 27), .ref 69] h256 _ _
      refine py_its (pc := 192) (pc1 := 193) (lv1 := [(2, .int (Int32.ofInt 0)), (1, .int (Int32.ofInt 0)), (0, .ref 69)]) (st1 := [.int ((gI h256 69 27) + q258), .ref 69]) 1 (fun _ _ _ _ => rfl) ?_
      have h := sb_e h
      refine py_pI (pc := 193) (len := 3) (cs := [69]) rfl rfl rfl List.mem_cons_self hS257 rfl rfl rfl rfl ?_
      have hS262 : oS (wF h256 69 27 (.int ((gI h256 69 27) + q258))) := oS_wI (cs := [69]) (ci := 9) rfl List.mem_cons_self hS257
      generalize (wF h256 69 27 (.int ((gI h256 69 27) + q258))) = h261 at h hS262 ⊢
      refine py_its (pc := 196) (pc1 := 197) (lv1 := [(2, .int (Int32.ofInt 0)), (1, .int (Int32.ofInt 0)), (0, .ref 69)]) (st1 := [.int (Int32.ofInt 0)]) 1 (fun _ _ _ _ => rfl) ?_
      refine py_if (pc := 197) (len := 3) false rfl (by decide) ?_
      refine py_its (pc := 200) (pc1 := 205) (lv1 := [(2, .int (Int32.ofInt 0)), (1, .int (Int32.ofInt 0)), (0, .ref 69)]) (st1 := [.int (Int32.ofInt 1)]) 2 (fun _ _ _ _ => rfl) ?_
      have h := Option.some.inj h
      subst h
      exact py_ir (pc := 205) (len := 1) (ty := .boolean) rfl rfl (by decide) hS262
/-! M_readsRule -/
noncomputable def fb_M_readsRule_L153 (v1 : Int32) (rc : Int32 → px_H → Option (Int32 × px_H)) (v6 : Int32) (hp : px_H) : Option (Int32 × px_H) :=
  bif px_cmp .ge v6 (gI hp 69 27) then
    some ((gI hp 69 27), hp)
  else
    bif px_inR v6 8 then
    bif px_inR (((Int8.ofInt 7).toInt32 * v1) + v6) 28 then
    sb (uI hp 83 (((Int8.ofInt 7).toInt32 * v1) + v6).toNatClampNeg (aI hp 86 v6.toNatClampNeg)) fun h53 =>
    bif px_inR v6 8 then
    bif px_inR (((Int8.ofInt 7).toInt32 * v1) + v6) 28 then
    sb (uI h53 84 (((Int8.ofInt 7).toInt32 * v1) + v6).toNatClampNeg (aI h53 87 v6.toNatClampNeg)) fun h57 =>
    rc (v6 + Int32.ofInt 1) h57
    else none
    else none
    else none
    else none
noncomputable def fn_M_readsRule_L153 (v1 : Int32) : Nat → Int32 → px_H → Option (Int32 × px_H)
  | 0 => fun _ _ => none
  | n + 1 => fb_M_readsRule_L153 v1 (fn_M_readsRule_L153 v1 n)
theorem fl_M_readsRule_L153 {v1 : Int32}  : ∀ (n : Nat) (v6 : Int32) (hp : px_H) (lv : List (Nat × Value)) (res : Int32 × px_H), oS hp → lk lv [(0, .ref 69), (1, .int v1), (6, .int v6)] → fn_M_readsRule_L153 v1 n v6 hp = some res → px_Y mm_M_readsRule 153 lv [] hp (some (.int res.1)) res.2 := by
  intro n
  induction n with
  | zero =>
    intro v6 hp lv res hS hk h
    cases h
  | succ n ih =>
    intro v6 hp lv res hS hk h
    have h : fb_M_readsRule_L153 v1 (fn_M_readsRule_L153 v1 n) v6 hp = some res := h
    unfold fb_M_readsRule_L153 at h
    refine py_il (pc := 153) (len := 2) (j := 6) rfl hk rfl ?_
    refine py_aln (pc := 155) (len := 1) (j := 0) rfl hk rfl ?_
    refine py_gI (pc := 156) (len := 3) (cs := [69]) rfl rfl rfl List.mem_cons_self hS ?_
    cases hb50 : px_cmp .ge v6 (gI hp 69 27) with
    | true =>
      have h := cd_t hb50 h
      refine py_ic (pc := 159) (len := 3) true rfl hb50 ?_
      refine py_aln (pc := 206) (len := 1) (j := 0) rfl hk rfl ?_
      refine py_gI (pc := 207) (len := 3) (cs := [69]) rfl rfl rfl List.mem_cons_self hS ?_
      have h := Option.some.inj h
      subst h
      exact py_ir (pc := 210) (len := 1) (ty := .int) rfl rfl rfl hS
    | false =>
      have h := cd_f hb50 h
      refine py_ic (pc := 159) (len := 3) false rfl hb50 ?_
      refine py_aln (pc := 162) (len := 1) (j := 0) rfl hk rfl ?_
      refine py_g1 83 (pc := 163) (len := 3) (cs := [69]) rfl rfl rfl List.mem_cons_self hS ?_
      refine py_its (pc := 166) (pc1 := 168) (lv1 := lv) (st1 := [.int (Int8.ofInt 7).toInt32, .ref 83]) 1 (fun _ _ _ _ => rfl) ?_
      refine py_iln (pc := 168) (len := 1) (j := 1) rfl hk rfl ?_
      refine py_its (pc := 169) (pc1 := 170) (lv1 := lv) (st1 := [.int ((Int8.ofInt 7).toInt32 * v1), .ref 83]) 1 (fun _ _ _ _ => rfl) ?_
      refine py_il (pc := 170) (len := 2) (j := 6) rfl hk rfl ?_
      refine py_its (pc := 172) (pc1 := 173) (lv1 := lv) (st1 := [.int (((Int8.ofInt 7).toInt32 * v1) + v6), .ref 83]) 1 (fun _ _ _ _ => rfl) ?_
      refine py_aln (pc := 173) (len := 1) (j := 0) rfl hk rfl ?_
      refine py_g1 86 (pc := 174) (len := 3) (cs := [69]) rfl rfl rfl List.mem_cons_self hS ?_
      refine py_il (pc := 177) (len := 2) (j := 6) rfl hk rfl ?_
      obtain ⟨hi51, h⟩ := cd_n h
      refine py_ai (pc := 179) (len := 1) (cs := [86]) (t := 43) (n := 8) rfl rfl rfl hi51 List.mem_cons_self hS ?_
      obtain ⟨hi52, h⟩ := cd_n h
      have h := sb_e h
      refine py_si (pc := 180) (len := 1) (cs := [83]) (t := 40) (n := 28) rfl rfl rfl hi52 List.mem_cons_self hS ?_
      have hS54 : oS (uI hp 83 (((Int8.ofInt 7).toInt32 * v1) + v6).toNatClampNeg (aI hp 86 v6.toNatClampNeg)) := oS_uI (cs := [83]) (t := 40) (n := 28) rfl List.mem_cons_self hS
      generalize (uI hp 83 (((Int8.ofInt 7).toInt32 * v1) + v6).toNatClampNeg (aI hp 86 v6.toNatClampNeg)) = h53 at h hS54 ⊢
      refine py_aln (pc := 181) (len := 1) (j := 0) rfl hk rfl ?_
      refine py_g1 84 (pc := 182) (len := 3) (cs := [69]) rfl rfl rfl List.mem_cons_self hS54 ?_
      refine py_its (pc := 185) (pc1 := 187) (lv1 := lv) (st1 := [.int (Int8.ofInt 7).toInt32, .ref 84]) 1 (fun _ _ _ _ => rfl) ?_
      refine py_iln (pc := 187) (len := 1) (j := 1) rfl hk rfl ?_
      refine py_its (pc := 188) (pc1 := 189) (lv1 := lv) (st1 := [.int ((Int8.ofInt 7).toInt32 * v1), .ref 84]) 1 (fun _ _ _ _ => rfl) ?_
      refine py_il (pc := 189) (len := 2) (j := 6) rfl hk rfl ?_
      refine py_its (pc := 191) (pc1 := 192) (lv1 := lv) (st1 := [.int (((Int8.ofInt 7).toInt32 * v1) + v6), .ref 84]) 1 (fun _ _ _ _ => rfl) ?_
      refine py_aln (pc := 192) (len := 1) (j := 0) rfl hk rfl ?_
      refine py_g1 87 (pc := 193) (len := 3) (cs := [69]) rfl rfl rfl List.mem_cons_self hS54 ?_
      refine py_il (pc := 196) (len := 2) (j := 6) rfl hk rfl ?_
      obtain ⟨hi55, h⟩ := cd_n h
      refine py_ai (pc := 198) (len := 1) (cs := [87]) (t := 44) (n := 8) rfl rfl rfl hi55 List.mem_cons_self hS54 ?_
      obtain ⟨hi56, h⟩ := cd_n h
      have h := sb_e h
      refine py_si (pc := 199) (len := 1) (cs := [84]) (t := 41) (n := 28) rfl rfl rfl hi56 List.mem_cons_self hS54 ?_
      have hS58 : oS (uI h53 84 (((Int8.ofInt 7).toInt32 * v1) + v6).toNatClampNeg (aI h53 87 v6.toNatClampNeg)) := oS_uI (cs := [84]) (t := 41) (n := 28) rfl List.mem_cons_self hS54
      generalize (uI h53 84 (((Int8.ofInt 7).toInt32 * v1) + v6).toNatClampNeg (aI h53 87 v6.toNatClampNeg)) = h57 at h hS58 ⊢
      refine py_inc (pc := 200) (len := 3) (j := 6) (n := 1) rfl rfl hk rfl (fun lv59 hk60 => ?_)
      have hk60 : lk lv59 [(6, .int (v6 + Int32.ofInt 1)), (0, .ref 69), (1, .int v1)] := hk60
      refine py_its (pc := 203) (pc1 := 153) (lv1 := lv59) (st1 := []) 1 (fun _ _ _ _ => rfl) ?_
      exact ih (v6 + Int32.ofInt 1) h57 lv59 _ hS58 ⟨lk_find hk60 rfl, lk_find hk60 rfl, lk_find hk60 rfl, trivial⟩ h
noncomputable def fb_M_readsRule_L43 (v1 : Int32) (v2 : Int32) (rc : Int32 → Int32 → px_H → Option (Int32 × px_H)) (v3 : Int32) (v4 : Int32) (hp : px_H) : Option (Int32 × px_H) :=
  bif px_cmp .eq v4 0 then
    bif px_cmp .eq v3 0 then
      bif px_cmp .le v2 (Int8.ofInt 20).toInt32 then
        some (((Int32.ofInt (-1)) - (gI hp 69 23)), hp)
      else
        bif px_cmp .lt (gI hp 69 23) (Int8.ofInt 20).toInt32 then
          some (((Int32.ofInt (-1)) - (gI hp 69 23)), hp)
        else
          some ((Int8.ofInt (-21)).toInt32, hp)
    else
      bif px_cmp .ne (gI hp 69 23) (gI hp 69 24) then
        bif px_cmp .le v2 (Int8.ofInt 20).toInt32 then
          some (((Int32.ofInt (-1)) - (gI hp 69 23)), hp)
        else
          bif px_cmp .lt (gI hp 69 23) (Int8.ofInt 20).toInt32 then
            some (((Int32.ofInt (-1)) - (gI hp 69 23)), hp)
          else
            some ((Int8.ofInt (-21)).toInt32, hp)
      else
        bif px_cmp .le v2 (Int8.ofInt 20).toInt32 then
          bif px_inR v1 4 then
          sb (uI hp 81 v1.toNatClampNeg (gI hp 69 27)) fun h25 =>
          bif px_inR v1 4 then
          sb (uI h25 82 v1.toNatClampNeg (Int32.ofInt 1)) fun h28 =>
          fn_M_readsRule_L153 v1 fu (Int32.ofInt 0) h28
          else none
          else none
        else
          some ((Int8.ofInt (-21)).toInt32, hp)
  else
    (fn_M_readsLine hp).bind fun q32 =>
    bif px_cmp .eq q32.1 0 then
      rc q32.1 (Int32.ofInt 0) q32.2
    else
      (fn_M_comes (Int8.ofInt 59).toInt32 q32.2).bind fun q41 =>
      bif px_cmp .eq q41.1 0 then
        rc q32.1 (Int32.ofInt 0) q41.2
      else
        rc q32.1 (Int32.ofInt 1) q41.2
noncomputable def fn_M_readsRule_L43 (v1 : Int32) (v2 : Int32) : Nat → Int32 → Int32 → px_H → Option (Int32 × px_H)
  | 0 => fun _ _ _ => none
  | n + 1 => fb_M_readsRule_L43 v1 v2 (fn_M_readsRule_L43 v1 v2 n)
theorem fl_M_readsRule_L43 {v1 : Int32} {v2 : Int32}  : ∀ (n : Nat) (v3 : Int32) (v4 : Int32) (hp : px_H) (lv : List (Nat × Value)) (res : Int32 × px_H), oS hp → lk lv [(0, .ref 69), (1, .int v1), (2, .int v2), (3, .int v3), (4, .int v4)] → fn_M_readsRule_L43 v1 v2 n v3 v4 hp = some res → px_Y mm_M_readsRule 43 lv [] hp (some (.int res.1)) res.2 := by
  intro n
  induction n with
  | zero =>
    intro v3 v4 hp lv res hS hk h
    cases h
  | succ n ih =>
    intro v3 v4 hp lv res hS hk h
    have h : fb_M_readsRule_L43 v1 v2 (fn_M_readsRule_L43 v1 v2 n) v3 v4 hp = some res := h
    unfold fb_M_readsRule_L43 at h
    refine py_il (pc := 43) (len := 2) (j := 4) rfl hk rfl ?_
    cases hb10 : px_cmp .eq v4 0 with
    | true =>
      have h := cd_t hb10 h
      refine py_if (pc := 45) (len := 3) true rfl hb10 ?_
      refine py_iln (pc := 76) (len := 1) (j := 3) rfl hk rfl ?_
      cases hb11 : px_cmp .eq v3 0 with
      | true =>
        have h := cd_t hb11 h
        refine py_if (pc := 77) (len := 3) true rfl hb11 ?_
        refine py_its (pc := 95) (pc1 := 96) (lv1 := lv) (st1 := [.int (Int32.ofInt 0)]) 1 (fun _ _ _ _ => rfl) ?_
        refine py_sti (pc := 96) (len := 2) (j := 5) rfl rfl hk (fun lv12 hk13 => ?_)
        have hk13 : lk lv12 [(5, .int (Int32.ofInt 0)), (0, .ref 69), (1, .int v1), (2, .int v2), (3, .int v3), (4, .int v4)] := hk13
        refine py_iln (pc := 98) (len := 1) (j := 2) rfl hk13 rfl ?_
        refine py_its (pc := 99) (pc1 := 101) (lv1 := lv12) (st1 := [.int (Int8.ofInt 20).toInt32, .int v2]) 1 (fun _ _ _ _ => rfl) ?_
        cases hb14 : px_cmp .le v2 (Int8.ofInt 20).toInt32 with
        | true =>
          have h := cd_t hb14 h
          refine py_ic (pc := 101) (len := 3) true rfl hb14 ?_
          refine py_il (pc := 121) (len := 2) (j := 5) rfl hk13 rfl ?_
          refine py_if (pc := 123) (len := 3) false rfl (by decide) ?_
          refine py_its (pc := 126) (pc1 := 127) (lv1 := lv12) (st1 := [.int (Int32.ofInt (-1))]) 1 (fun _ _ _ _ => rfl) ?_
          refine py_aln (pc := 127) (len := 1) (j := 0) rfl hk13 rfl ?_
          refine py_gI (pc := 128) (len := 3) (cs := [69]) rfl rfl rfl List.mem_cons_self hS ?_
          refine py_its (pc := 131) (pc1 := 132) (lv1 := lv12) (st1 := [.int ((Int32.ofInt (-1)) - (gI hp 69 23))]) 1 (fun _ _ _ _ => rfl) ?_
          have h := Option.some.inj h
          subst h
          exact py_ir (pc := 132) (len := 1) (ty := .int) rfl rfl rfl hS
        | false =>
          have h := cd_f hb14 h
          refine py_ic (pc := 101) (len := 3) false rfl hb14 ?_
          refine py_il (pc := 104) (len := 2) (j := 5) rfl hk13 rfl ?_
          refine py_if (pc := 106) (len := 3) false rfl (by decide) ?_
          refine py_aln (pc := 109) (len := 1) (j := 0) rfl hk13 rfl ?_
          refine py_gI (pc := 110) (len := 3) (cs := [69]) rfl rfl rfl List.mem_cons_self hS ?_
          refine py_its (pc := 113) (pc1 := 115) (lv1 := lv12) (st1 := [.int (Int8.ofInt 20).toInt32, .int (gI hp 69 23)]) 1 (fun _ _ _ _ => rfl) ?_
          cases hb15 : px_cmp .lt (gI hp 69 23) (Int8.ofInt 20).toInt32 with
          | true =>
            have h := cd_t hb15 h
            refine py_ic (pc := 115) (len := 3) true rfl hb15 ?_
            refine py_il (pc := 121) (len := 2) (j := 5) rfl hk13 rfl ?_
            refine py_if (pc := 123) (len := 3) false rfl (by decide) ?_
            refine py_its (pc := 126) (pc1 := 127) (lv1 := lv12) (st1 := [.int (Int32.ofInt (-1))]) 1 (fun _ _ _ _ => rfl) ?_
            refine py_aln (pc := 127) (len := 1) (j := 0) rfl hk13 rfl ?_
            refine py_gI (pc := 128) (len := 3) (cs := [69]) rfl rfl rfl List.mem_cons_self hS ?_
            refine py_its (pc := 131) (pc1 := 132) (lv1 := lv12) (st1 := [.int ((Int32.ofInt (-1)) - (gI hp 69 23))]) 1 (fun _ _ _ _ => rfl) ?_
            have h := Option.some.inj h
            subst h
            exact py_ir (pc := 132) (len := 1) (ty := .int) rfl rfl rfl hS
          | false =>
            have h := cd_f hb15 h
            refine py_ic (pc := 115) (len := 3) false rfl hb15 ?_
            refine py_its (pc := 118) (pc1 := 120) (lv1 := lv12) (st1 := [.int (Int8.ofInt (-21)).toInt32]) 1 (fun _ _ _ _ => rfl) ?_
            have h := Option.some.inj h
            subst h
            exact py_ir (pc := 120) (len := 1) (ty := .int) rfl rfl rfl hS
      | false =>
        have h := cd_f hb11 h
        refine py_if (pc := 77) (len := 3) false rfl hb11 ?_
        refine py_aln (pc := 80) (len := 1) (j := 0) rfl hk rfl ?_
        refine py_gI (pc := 81) (len := 3) (cs := [69]) rfl rfl rfl List.mem_cons_self hS ?_
        refine py_aln (pc := 84) (len := 1) (j := 0) rfl hk rfl ?_
        refine py_gI (pc := 85) (len := 3) (cs := [69]) rfl rfl rfl List.mem_cons_self hS ?_
        cases hb16 : px_cmp .ne (gI hp 69 23) (gI hp 69 24) with
        | true =>
          have h := cd_t hb16 h
          refine py_ic (pc := 88) (len := 3) true rfl hb16 ?_
          refine py_its (pc := 95) (pc1 := 96) (lv1 := lv) (st1 := [.int (Int32.ofInt 0)]) 1 (fun _ _ _ _ => rfl) ?_
          refine py_sti (pc := 96) (len := 2) (j := 5) rfl rfl hk (fun lv17 hk18 => ?_)
          have hk18 : lk lv17 [(5, .int (Int32.ofInt 0)), (0, .ref 69), (1, .int v1), (2, .int v2), (3, .int v3), (4, .int v4)] := hk18
          refine py_iln (pc := 98) (len := 1) (j := 2) rfl hk18 rfl ?_
          refine py_its (pc := 99) (pc1 := 101) (lv1 := lv17) (st1 := [.int (Int8.ofInt 20).toInt32, .int v2]) 1 (fun _ _ _ _ => rfl) ?_
          cases hb19 : px_cmp .le v2 (Int8.ofInt 20).toInt32 with
          | true =>
            have h := cd_t hb19 h
            refine py_ic (pc := 101) (len := 3) true rfl hb19 ?_
            refine py_il (pc := 121) (len := 2) (j := 5) rfl hk18 rfl ?_
            refine py_if (pc := 123) (len := 3) false rfl (by decide) ?_
            refine py_its (pc := 126) (pc1 := 127) (lv1 := lv17) (st1 := [.int (Int32.ofInt (-1))]) 1 (fun _ _ _ _ => rfl) ?_
            refine py_aln (pc := 127) (len := 1) (j := 0) rfl hk18 rfl ?_
            refine py_gI (pc := 128) (len := 3) (cs := [69]) rfl rfl rfl List.mem_cons_self hS ?_
            refine py_its (pc := 131) (pc1 := 132) (lv1 := lv17) (st1 := [.int ((Int32.ofInt (-1)) - (gI hp 69 23))]) 1 (fun _ _ _ _ => rfl) ?_
            have h := Option.some.inj h
            subst h
            exact py_ir (pc := 132) (len := 1) (ty := .int) rfl rfl rfl hS
          | false =>
            have h := cd_f hb19 h
            refine py_ic (pc := 101) (len := 3) false rfl hb19 ?_
            refine py_il (pc := 104) (len := 2) (j := 5) rfl hk18 rfl ?_
            refine py_if (pc := 106) (len := 3) false rfl (by decide) ?_
            refine py_aln (pc := 109) (len := 1) (j := 0) rfl hk18 rfl ?_
            refine py_gI (pc := 110) (len := 3) (cs := [69]) rfl rfl rfl List.mem_cons_self hS ?_
            refine py_its (pc := 113) (pc1 := 115) (lv1 := lv17) (st1 := [.int (Int8.ofInt 20).toInt32, .int (gI hp 69 23)]) 1 (fun _ _ _ _ => rfl) ?_
            cases hb20 : px_cmp .lt (gI hp 69 23) (Int8.ofInt 20).toInt32 with
            | true =>
              have h := cd_t hb20 h
              refine py_ic (pc := 115) (len := 3) true rfl hb20 ?_
              refine py_il (pc := 121) (len := 2) (j := 5) rfl hk18 rfl ?_
              refine py_if (pc := 123) (len := 3) false rfl (by decide) ?_
              refine py_its (pc := 126) (pc1 := 127) (lv1 := lv17) (st1 := [.int (Int32.ofInt (-1))]) 1 (fun _ _ _ _ => rfl) ?_
              refine py_aln (pc := 127) (len := 1) (j := 0) rfl hk18 rfl ?_
              refine py_gI (pc := 128) (len := 3) (cs := [69]) rfl rfl rfl List.mem_cons_self hS ?_
              refine py_its (pc := 131) (pc1 := 132) (lv1 := lv17) (st1 := [.int ((Int32.ofInt (-1)) - (gI hp 69 23))]) 1 (fun _ _ _ _ => rfl) ?_
              have h := Option.some.inj h
              subst h
              exact py_ir (pc := 132) (len := 1) (ty := .int) rfl rfl rfl hS
            | false =>
              have h := cd_f hb20 h
              refine py_ic (pc := 115) (len := 3) false rfl hb20 ?_
              refine py_its (pc := 118) (pc1 := 120) (lv1 := lv17) (st1 := [.int (Int8.ofInt (-21)).toInt32]) 1 (fun _ _ _ _ => rfl) ?_
              have h := Option.some.inj h
              subst h
              exact py_ir (pc := 120) (len := 1) (ty := .int) rfl rfl rfl hS
        | false =>
          have h := cd_f hb16 h
          refine py_ic (pc := 88) (len := 3) false rfl hb16 ?_
          refine py_its (pc := 91) (pc1 := 96) (lv1 := lv) (st1 := [.int (Int32.ofInt 1)]) 2 (fun _ _ _ _ => rfl) ?_
          refine py_sti (pc := 96) (len := 2) (j := 5) rfl rfl hk (fun lv21 hk22 => ?_)
          have hk22 : lk lv21 [(5, .int (Int32.ofInt 1)), (0, .ref 69), (1, .int v1), (2, .int v2), (3, .int v3), (4, .int v4)] := hk22
          refine py_iln (pc := 98) (len := 1) (j := 2) rfl hk22 rfl ?_
          refine py_its (pc := 99) (pc1 := 101) (lv1 := lv21) (st1 := [.int (Int8.ofInt 20).toInt32, .int v2]) 1 (fun _ _ _ _ => rfl) ?_
          cases hb23 : px_cmp .le v2 (Int8.ofInt 20).toInt32 with
          | true =>
            have h := cd_t hb23 h
            refine py_ic (pc := 101) (len := 3) true rfl hb23 ?_
            refine py_il (pc := 121) (len := 2) (j := 5) rfl hk22 rfl ?_
            refine py_if (pc := 123) (len := 3) true rfl (by decide) ?_
            refine py_aln (pc := 133) (len := 1) (j := 0) rfl hk22 rfl ?_
            refine py_g1 81 (pc := 134) (len := 3) (cs := [69]) rfl rfl rfl List.mem_cons_self hS ?_
            refine py_iln (pc := 137) (len := 1) (j := 1) rfl hk22 rfl ?_
            refine py_aln (pc := 138) (len := 1) (j := 0) rfl hk22 rfl ?_
            refine py_gI (pc := 139) (len := 3) (cs := [69]) rfl rfl rfl List.mem_cons_self hS ?_
            obtain ⟨hi24, h⟩ := cd_n h
            have h := sb_e h
            refine py_si (pc := 142) (len := 1) (cs := [81]) (t := 38) (n := 4) rfl rfl rfl hi24 List.mem_cons_self hS ?_
            have hS26 : oS (uI hp 81 v1.toNatClampNeg (gI hp 69 27)) := oS_uI (cs := [81]) (t := 38) (n := 4) rfl List.mem_cons_self hS
            generalize (uI hp 81 v1.toNatClampNeg (gI hp 69 27)) = h25 at h hS26 ⊢
            refine py_aln (pc := 143) (len := 1) (j := 0) rfl hk22 rfl ?_
            refine py_g1 82 (pc := 144) (len := 3) (cs := [69]) rfl rfl rfl List.mem_cons_self hS26 ?_
            refine py_iln (pc := 147) (len := 1) (j := 1) rfl hk22 rfl ?_
            refine py_its (pc := 148) (pc1 := 149) (lv1 := lv21) (st1 := [.int (Int32.ofInt 1), .int v1, .ref 82]) 1 (fun _ _ _ _ => rfl) ?_
            obtain ⟨hi27, h⟩ := cd_n h
            have h := sb_e h
            refine py_sb (pc := 149) (len := 1) (cs := [82]) (t := 39) (n := 4) rfl rfl rfl hi27 (by decide) List.mem_cons_self hS26 ?_
            have hS29 : oS (uI h25 82 v1.toNatClampNeg (Int32.ofInt 1)) := oS_uI (cs := [82]) (t := 39) (n := 4) rfl List.mem_cons_self hS26
            generalize (uI h25 82 v1.toNatClampNeg (Int32.ofInt 1)) = h28 at h hS29 ⊢
            refine py_its (pc := 150) (pc1 := 151) (lv1 := lv21) (st1 := [.int (Int32.ofInt 0)]) 1 (fun _ _ _ _ => rfl) ?_
            refine py_sti (pc := 151) (len := 2) (j := 6) rfl rfl hk22 (fun lv30 hk31 => ?_)
            have hk31 : lk lv30 [(6, .int (Int32.ofInt 0)), (5, .int (Int32.ofInt 1)), (0, .ref 69), (1, .int v1), (2, .int v2), (3, .int v3), (4, .int v4)] := hk31
            exact fl_M_readsRule_L153 fu (Int32.ofInt 0) h28 lv30 _ hS29 ⟨lk_find hk31 rfl, lk_find hk31 rfl, lk_find hk31 rfl, trivial⟩ h
          | false =>
            have h := cd_f hb23 h
            refine py_ic (pc := 101) (len := 3) false rfl hb23 ?_
            refine py_il (pc := 104) (len := 2) (j := 5) rfl hk22 rfl ?_
            refine py_if (pc := 106) (len := 3) true rfl (by decide) ?_
            refine py_its (pc := 118) (pc1 := 120) (lv1 := lv21) (st1 := [.int (Int8.ofInt (-21)).toInt32]) 1 (fun _ _ _ _ => rfl) ?_
            have h := Option.some.inj h
            subst h
            exact py_ir (pc := 120) (len := 1) (ty := .int) rfl rfl rfl hS
    | false =>
      have h := cd_f hb10 h
      refine py_if (pc := 45) (len := 3) false rfl hb10 ?_
      refine py_aln (pc := 48) (len := 1) (j := 0) rfl hk rfl ?_
      obtain ⟨q32, hq33, h⟩ := bd_e h
      obtain ⟨hC34, hS35⟩ := fx_M_readsLine hS hq33
      refine py_vi (pc := 49) (mi := mi_M_readsLine) (cs := [69]) (N := mm_M_readsLine) rfl rfl rfl rfl List.mem_cons_self hS rfl (Nat.le_of_ble_eq_true rfl) (Nat.le_of_ble_eq_true rfl) rfl rfl hC34 ?_
      show px_Y mm_M_readsRule 52 lv [.int q32.1] q32.2 _ _
      refine py_sin (pc := 52) (len := 1) (j := 3) rfl rfl hk (fun lv36 hk37 => ?_)
      have hk37 : lk lv36 [(3, .int q32.1), (0, .ref 69), (1, .int v1), (2, .int v2), (4, .int v4)] := hk37
      refine py_iln (pc := 53) (len := 1) (j := 3) rfl hk37 rfl ?_
      cases hb38 : px_cmp .eq q32.1 0 with
      | true =>
        have h := cd_t hb38 h
        refine py_if (pc := 54) (len := 3) true rfl hb38 ?_
        refine py_its (pc := 70) (pc1 := 71) (lv1 := lv36) (st1 := [.int (Int32.ofInt 0)]) 1 (fun _ _ _ _ => rfl) ?_
        refine py_sti (pc := 71) (len := 2) (j := 4) rfl rfl hk37 (fun lv39 hk40 => ?_)
        have hk40 : lk lv39 [(4, .int (Int32.ofInt 0)), (3, .int q32.1), (0, .ref 69), (1, .int v1), (2, .int v2)] := hk40
        refine py_its (pc := 73) (pc1 := 43) (lv1 := lv39) (st1 := []) 1 (fun _ _ _ _ => rfl) ?_
        exact ih q32.1 (Int32.ofInt 0) q32.2 lv39 _ hS35 ⟨lk_find hk40 rfl, lk_find hk40 rfl, lk_find hk40 rfl, lk_find hk40 rfl, lk_find hk40 rfl, trivial⟩ h
      | false =>
        have h := cd_f hb38 h
        refine py_if (pc := 54) (len := 3) false rfl hb38 ?_
        refine py_aln (pc := 57) (len := 1) (j := 0) rfl hk37 rfl ?_
        refine py_its (pc := 58) (pc1 := 60) (lv1 := lv36) (st1 := [.int (Int8.ofInt 59).toInt32, .ref 69]) 1 (fun _ _ _ _ => rfl) ?_
        obtain ⟨q41, hq42, h⟩ := bd_e h
        obtain ⟨hC43, hS44⟩ := fx_M_comes hS35 hq42
        refine py_vi (pc := 60) (mi := mi_M_comes) (cs := [69]) (N := mm_M_comes) rfl rfl rfl rfl List.mem_cons_self hS35 rfl (Nat.le_of_ble_eq_true rfl) (Nat.le_of_ble_eq_true rfl) rfl rfl hC43 ?_
        show px_Y mm_M_readsRule 63 lv36 [.int q41.1] q41.2 _ _
        cases hb45 : px_cmp .eq q41.1 0 with
        | true =>
          have h := cd_t hb45 h
          refine py_if (pc := 63) (len := 3) true rfl hb45 ?_
          refine py_its (pc := 70) (pc1 := 71) (lv1 := lv36) (st1 := [.int (Int32.ofInt 0)]) 1 (fun _ _ _ _ => rfl) ?_
          refine py_sti (pc := 71) (len := 2) (j := 4) rfl rfl hk37 (fun lv46 hk47 => ?_)
          have hk47 : lk lv46 [(4, .int (Int32.ofInt 0)), (3, .int q32.1), (0, .ref 69), (1, .int v1), (2, .int v2)] := hk47
          refine py_its (pc := 73) (pc1 := 43) (lv1 := lv46) (st1 := []) 1 (fun _ _ _ _ => rfl) ?_
          exact ih q32.1 (Int32.ofInt 0) q41.2 lv46 _ hS44 ⟨lk_find hk47 rfl, lk_find hk47 rfl, lk_find hk47 rfl, lk_find hk47 rfl, lk_find hk47 rfl, trivial⟩ h
        | false =>
          have h := cd_f hb45 h
          refine py_if (pc := 63) (len := 3) false rfl hb45 ?_
          refine py_its (pc := 66) (pc1 := 71) (lv1 := lv36) (st1 := [.int (Int32.ofInt 1)]) 2 (fun _ _ _ _ => rfl) ?_
          refine py_sti (pc := 71) (len := 2) (j := 4) rfl rfl hk37 (fun lv48 hk49 => ?_)
          have hk49 : lk lv48 [(4, .int (Int32.ofInt 1)), (3, .int q32.1), (0, .ref 69), (1, .int v1), (2, .int v2)] := hk49
          refine py_its (pc := 73) (pc1 := 43) (lv1 := lv48) (st1 := []) 1 (fun _ _ _ _ => rfl) ?_
          exact ih q32.1 (Int32.ofInt 1) q41.2 lv48 _ hS44 ⟨lk_find hk49 rfl, lk_find hk49 rfl, lk_find hk49 rfl, lk_find hk49 rfl, lk_find hk49 rfl, trivial⟩ h
noncomputable def fn_M_readsRule (a1 : Int32) (hp : px_H) : Option (Int32 × px_H) :=
  sb (wF hp 69 22 (.int (Int32.ofInt 0))) fun h1 =>
  sb (wF h1 69 23 (.int (Int32.ofInt 0))) fun h3 =>
  sb (wF h3 69 24 (.int (if (Int8.ofInt 20).toInt32 < (gI hp 69 22) then (Int8.ofInt 20).toInt32 else (gI hp 69 22)))) fun h5 =>
  sb (wF h5 69 27 (.int (Int32.ofInt 0))) fun h7 =>
  bif px_cmp .le (gI hp 69 22) 0 then
    fn_M_readsRule_L43 a1 (gI hp 69 22) fu (Int32.ofInt 1) (Int32.ofInt 0) h7
  else
    fn_M_readsRule_L43 a1 (gI hp 69 22) fu (Int32.ofInt 1) (Int32.ofInt 1) h7
theorem fx_M_readsRule {a1 : Int32} {hp : px_H} {res : Int32 × px_H} (hS : oS hp) (h : fn_M_readsRule a1 hp = some res) : px_C nm_T nm_P mi_M_readsRule [.ref 69, .int a1] hp (some (.int res.1)) res.2 ∧ oS res.2 := by
  unfold fn_M_readsRule at h
  refine py_C (M := mm_M_readsRule) rfl (Nat.le_of_ble_eq_true rfl) ?_
  show px_Y mm_M_readsRule 0 [(0, .ref 69), (1, .int a1)] [] hp _ _
  refine py_its (pc := 0) (pc1 := 1) (lv1 := [(0, .ref 69), (1, .int a1)]) (st1 := [.ref 69]) 1 (fun _ _ _ _ => rfl) ?_
  refine py_gI (pc := 1) (len := 3) (cs := [69]) rfl rfl rfl List.mem_cons_self hS ?_
  refine py_its (pc := 4) (pc1 := 7) (lv1 := [(2, .int (gI hp 69 22)), (0, .ref 69), (1, .int a1)]) (st1 := [.int (Int32.ofInt 0), .ref 69]) 3 (fun _ _ _ _ => rfl) ?_
  have h := sb_e h
  refine py_pI (pc := 7) (len := 3) (cs := [69]) rfl rfl rfl List.mem_cons_self hS rfl rfl rfl rfl ?_
  have hS2 : oS (wF hp 69 22 (.int (Int32.ofInt 0))) := oS_wI (cs := [69]) (ci := 9) rfl List.mem_cons_self hS
  generalize (wF hp 69 22 (.int (Int32.ofInt 0))) = h1 at h hS2 ⊢
  refine py_its (pc := 10) (pc1 := 12) (lv1 := [(2, .int (gI hp 69 22)), (0, .ref 69), (1, .int a1)]) (st1 := [.int (Int32.ofInt 0), .ref 69]) 2 (fun _ _ _ _ => rfl) ?_
  have h := sb_e h
  refine py_pI (pc := 12) (len := 3) (cs := [69]) rfl rfl rfl List.mem_cons_self hS2 rfl rfl rfl rfl ?_
  have hS4 : oS (wF h1 69 23 (.int (Int32.ofInt 0))) := oS_wI (cs := [69]) (ci := 9) rfl List.mem_cons_self hS2
  generalize (wF h1 69 23 (.int (Int32.ofInt 0))) = h3 at h hS4 ⊢
  refine py_its (pc := 15) (pc1 := 19) (lv1 := [(2, .int (gI hp 69 22)), (0, .ref 69), (1, .int a1)]) (st1 := [.int (Int8.ofInt 20).toInt32, .int (gI hp 69 22), .ref 69]) 3 (fun _ _ _ _ => rfl) ?_
  refine py_mth (pc := 19) (w := 1) (st' := [.int (if (Int8.ofInt 20).toInt32 < (gI hp 69 22) then (Int8.ofInt 20).toInt32 else (gI hp 69 22)), .ref 69]) rfl rfl rfl (Nat.le_of_ble_eq_true rfl) ?_
  have h := sb_e h
  refine py_pI (pc := 22) (len := 3) (cs := [69]) rfl rfl rfl List.mem_cons_self hS4 rfl rfl rfl rfl ?_
  have hS6 : oS (wF h3 69 24 (.int (if (Int8.ofInt 20).toInt32 < (gI hp 69 22) then (Int8.ofInt 20).toInt32 else (gI hp 69 22)))) := oS_wI (cs := [69]) (ci := 9) rfl List.mem_cons_self hS4
  generalize (wF h3 69 24 (.int (if (Int8.ofInt 20).toInt32 < (gI hp 69 22) then (Int8.ofInt 20).toInt32 else (gI hp 69 22)))) = h5 at h hS6 ⊢
  refine py_its (pc := 25) (pc1 := 27) (lv1 := [(2, .int (gI hp 69 22)), (0, .ref 69), (1, .int a1)]) (st1 := [.int (Int32.ofInt 0), .ref 69]) 2 (fun _ _ _ _ => rfl) ?_
  have h := sb_e h
  refine py_pI (pc := 27) (len := 3) (cs := [69]) rfl rfl rfl List.mem_cons_self hS6 rfl rfl rfl rfl ?_
  have hS8 : oS (wF h5 69 27 (.int (Int32.ofInt 0))) := oS_wI (cs := [69]) (ci := 9) rfl List.mem_cons_self hS6
  generalize (wF h5 69 27 (.int (Int32.ofInt 0))) = h7 at h hS8 ⊢
  refine py_its (pc := 30) (pc1 := 33) (lv1 := [(3, .int (Int32.ofInt 1)), (2, .int (gI hp 69 22)), (0, .ref 69), (1, .int a1)]) (st1 := [.int (gI hp 69 22)]) 3 (fun _ _ _ _ => rfl) ?_
  cases hb9 : px_cmp .le (gI hp 69 22) 0 with
  | true =>
    have h := cd_t hb9 h
    refine py_if (pc := 33) (len := 3) true rfl hb9 ?_
    refine py_its (pc := 40) (pc1 := 43) (lv1 := [(4, .int (Int32.ofInt 0)), (3, .int (Int32.ofInt 1)), (2, .int (gI hp 69 22)), (0, .ref 69), (1, .int a1)]) (st1 := []) 2 (fun _ _ _ _ => rfl) ?_
    exact fl_M_readsRule_L43 fu (Int32.ofInt 1) (Int32.ofInt 0) h7 [(4, .int (Int32.ofInt 0)), (3, .int (Int32.ofInt 1)), (2, .int (gI hp 69 22)), (0, .ref 69), (1, .int a1)] _ hS8 ⟨rfl, rfl, rfl, rfl, rfl, trivial⟩ h
  | false =>
    have h := cd_f hb9 h
    refine py_if (pc := 33) (len := 3) false rfl hb9 ?_
    refine py_its (pc := 36) (pc1 := 43) (lv1 := [(4, .int (Int32.ofInt 1)), (3, .int (Int32.ofInt 1)), (2, .int (gI hp 69 22)), (0, .ref 69), (1, .int a1)]) (st1 := []) 3 (fun _ _ _ _ => rfl) ?_
    exact fl_M_readsRule_L43 fu (Int32.ofInt 1) (Int32.ofInt 1) h7 [(4, .int (Int32.ofInt 1)), (3, .int (Int32.ofInt 1)), (2, .int (gI hp 69 22)), (0, .ref 69), (1, .int a1)] _ hS8 ⟨rfl, rfl, rfl, rfl, rfl, trivial⟩ h
/-! M_rule -/
noncomputable def fn_M_rule  (hp : px_H) : Option (Int32 × px_H) :=
  sb (wF hp 69 0 (.int (Int32.ofInt 0))) fun h1 =>
  (fn_M_readsRule (Int32.ofInt 0) h1).bind fun q3 =>
  some (q3.1, q3.2)
theorem fx_M_rule  {hp : px_H} {res : Int32 × px_H} (hS : oS hp) (h : fn_M_rule hp = some res) : px_C nm_T nm_P mi_M_rule [.ref 69] hp (some (.int res.1)) res.2 ∧ oS res.2 := by
  unfold fn_M_rule at h
  refine py_C (M := mm_M_rule) rfl (Nat.le_of_ble_eq_true rfl) ?_
  show px_Y mm_M_rule 0 [(0, .ref 69)] [] hp _ _
  refine py_its (pc := 0) (pc1 := 2) (lv1 := [(0, .ref 69)]) (st1 := [.int (Int32.ofInt 0), .ref 69]) 2 (fun _ _ _ _ => rfl) ?_
  have h := sb_e h
  refine py_pI (pc := 2) (len := 3) (cs := [69]) rfl rfl rfl List.mem_cons_self hS rfl rfl rfl rfl ?_
  have hS2 : oS (wF hp 69 0 (.int (Int32.ofInt 0))) := oS_wI (cs := [69]) (ci := 9) rfl List.mem_cons_self hS
  generalize (wF hp 69 0 (.int (Int32.ofInt 0))) = h1 at h hS2 ⊢
  refine py_its (pc := 5) (pc1 := 7) (lv1 := [(0, .ref 69)]) (st1 := [.int (Int32.ofInt 0), .ref 69]) 2 (fun _ _ _ _ => rfl) ?_
  obtain ⟨q3, hq4, h⟩ := bd_e h
  obtain ⟨hC5, hS6⟩ := fx_M_readsRule hS2 hq4
  refine py_vi (pc := 7) (mi := mi_M_readsRule) (cs := [69]) (N := mm_M_readsRule) rfl rfl rfl rfl List.mem_cons_self hS2 rfl (Nat.le_of_ble_eq_true rfl) (Nat.le_of_ble_eq_true rfl) rfl rfl hC5 ?_
  show px_Y mm_M_rule 10 [(0, .ref 69)] [.int q3.1] q3.2 _ _
  have h := Option.some.inj h
  subst h
  exact py_ir (pc := 10) (len := 1) (ty := .int) rfl rfl rfl hS6
/-! M_other -/
noncomputable def fn_M_other (a1 : Int32) (hp : px_H) : Option (Int32 × px_H) :=
  sb (wF hp 69 0 (.int (Int32.ofInt 0))) fun h1 =>
  bif px_cmp .ne (sx_in a1.toInt64 (Int64.ofNat 0) (Int64.ofInt 2)) 0 then
    (fn_M_readsRule ((Int32.ofInt 1) + a1) h1).bind fun q4 =>
    some (q4.1, q4.2)
  else
    sb (wF h1 69 22 (.int (Int32.ofInt 0))) fun h8 =>
    some ((Int8.ofInt (-100)).toInt32, h8)
theorem fx_M_other {a1 : Int32} {hp : px_H} {res : Int32 × px_H} (hS : oS hp) (h : fn_M_other a1 hp = some res) : px_C nm_T nm_P mi_M_other [.ref 69, .int a1] hp (some (.int res.1)) res.2 ∧ oS res.2 := by
  unfold fn_M_other at h
  refine py_C (M := mm_M_other) rfl (Nat.le_of_ble_eq_true rfl) ?_
  show px_Y mm_M_other 0 [(0, .ref 69), (1, .int a1)] [] hp _ _
  refine py_its (pc := 0) (pc1 := 2) (lv1 := [(0, .ref 69), (1, .int a1)]) (st1 := [.int (Int32.ofInt 0), .ref 69]) 2 (fun _ _ _ _ => rfl) ?_
  have h := sb_e h
  refine py_pI (pc := 2) (len := 3) (cs := [69]) rfl rfl rfl List.mem_cons_self hS rfl rfl rfl rfl ?_
  have hS2 : oS (wF hp 69 0 (.int (Int32.ofInt 0))) := oS_wI (cs := [69]) (ci := 9) rfl List.mem_cons_self hS
  generalize (wF hp 69 0 (.int (Int32.ofInt 0))) = h1 at h hS2 ⊢
  refine py_its (pc := 5) (pc1 := 11) (lv1 := [(0, .ref 69), (1, .int a1)]) (st1 := [.long (Int64.ofInt 2), .long (Int64.ofNat 0), .long a1.toInt64]) 4 (fun _ _ _ _ => rfl) ?_
  refine py_st (pc := 11) (mi := mi_M_in) (N := mm_M_in) rfl rfl rfl (Nat.le_of_ble_eq_true rfl) (Nat.le_of_ble_eq_true rfl) rfl rfl (sx_in_C a1.toInt64 (Int64.ofNat 0) (Int64.ofInt 2) h1) ?_
  show px_Y mm_M_other 14 [(0, .ref 69), (1, .int a1)] [.int (sx_in a1.toInt64 (Int64.ofNat 0) (Int64.ofInt 2))] h1 _ _
  cases hb3 : px_cmp .ne (sx_in a1.toInt64 (Int64.ofNat 0) (Int64.ofInt 2)) 0 with
  | true =>
    have h := cd_t hb3 h
    refine py_if (pc := 14) (len := 3) true rfl hb3 ?_
    refine py_its (pc := 25) (pc1 := 29) (lv1 := [(0, .ref 69), (1, .int a1)]) (st1 := [.int ((Int32.ofInt 1) + a1), .ref 69]) 4 (fun _ _ _ _ => rfl) ?_
    obtain ⟨q4, hq5, h⟩ := bd_e h
    obtain ⟨hC6, hS7⟩ := fx_M_readsRule hS2 hq5
    refine py_vi (pc := 29) (mi := mi_M_readsRule) (cs := [69]) (N := mm_M_readsRule) rfl rfl rfl rfl List.mem_cons_self hS2 rfl (Nat.le_of_ble_eq_true rfl) (Nat.le_of_ble_eq_true rfl) rfl rfl hC6 ?_
    show px_Y mm_M_other 32 [(0, .ref 69), (1, .int a1)] [.int q4.1] q4.2 _ _
    have h := Option.some.inj h
    subst h
    exact py_ir (pc := 32) (len := 1) (ty := .int) rfl rfl rfl hS7
  | false =>
    have h := cd_f hb3 h
    refine py_if (pc := 14) (len := 3) false rfl hb3 ?_
    refine py_its (pc := 17) (pc1 := 19) (lv1 := [(0, .ref 69), (1, .int a1)]) (st1 := [.int (Int32.ofInt 0), .ref 69]) 2 (fun _ _ _ _ => rfl) ?_
    have h := sb_e h
    refine py_pI (pc := 19) (len := 3) (cs := [69]) rfl rfl rfl List.mem_cons_self hS2 rfl rfl rfl rfl ?_
    have hS9 : oS (wF h1 69 22 (.int (Int32.ofInt 0))) := oS_wI (cs := [69]) (ci := 9) rfl List.mem_cons_self hS2
    generalize (wF h1 69 22 (.int (Int32.ofInt 0))) = h8 at h hS9 ⊢
    refine py_its (pc := 22) (pc1 := 24) (lv1 := [(0, .ref 69), (1, .int a1)]) (st1 := [.int (Int8.ofInt (-100)).toInt32]) 1 (fun _ _ _ _ => rfl) ?_
    have h := Option.some.inj h
    subst h
    exact py_ir (pc := 24) (len := 1) (ty := .int) rfl rfl rfl hS9
