/-! debt and sheet: the debts -/
def sd_R (hp : px_H) : Prop := ∃ (z : Int32) (f g : Nat → Int32), ac_fv hp 1 0 = some (.int z) ∧ ac_fv hp 69 3 = some (.int z) ∧ hp[3]? = some (.inl (13, 10, .inl f)) ∧ hp[na_owes]? = some (.inl (nr_owes, 10, .inl g)) ∧ ∀ i : Nat, i < 10 → f i = g i ∧ (z.toInt ≤ i → f i = 0)
def sd_Rf (ws : List (Nat × Nat)) (wa : List Nat) : Bool := !(ac_has ws 1 0) && (!(ac_has ws 69 3) && (!(ac_in 3 wa) && !(ac_in na_owes wa)))
theorem sd_R_fr {ws : List (Nat × Nat)} {wa : List Nat} {hp hp' : px_H} (h : px_fr ws wa hp hp') (hw : sd_Rf ws wa = true) (hR : sd_R hp) : sd_R hp' := by
  simp only [sd_Rf, Bool.and_eq_true, Bool.not_eq_true'] at hw
  obtain ⟨z, f, g, h1, h2, h3, h4, h5⟩ := hR
  exact ⟨z, f, g, ex_fv_fr h hw.1 h1, ex_fv_fr h hw.2.1 h2, h.1 _ _ (ac_in_no hw.2.2.1) h3, h.1 _ _ (ac_in_no hw.2.2.2) h4, h5⟩
theorem sd_R_arr {hp : px_H} {x y : Nat × vp_A} (hx : hp[105]? = some (.inl x)) (hR : sd_R hp) : sd_R (hp.set 105 (.inl y)) := by
  obtain ⟨z, f, g, h1, h2, h3, h4, h5⟩ := hR
  exact ⟨z, f, g, by rw [ac_fv_arr hx]; exact h1, by rw [ac_fv_arr hx]; exact h2, by rw [List.getElem?_set_ne (by decide)]; exact h3, by rw [List.getElem?_set_ne (by decide)]; exact h4, h5⟩
set_option maxRecDepth 1000000 in
theorem sd_R0 : sd_R nm_H1 := ⟨0, _, _, rfl, rfl, rfl, rfl, fun i hi => ⟨rfl, fun _ => rfl⟩⟩
/-- what two calls leave -/
def sd_twoR (X M : Nat) (cmp : Bool) (a a' : Nat) (t : List Value) (hp : px_H) : Prop :=
  ∃ (v v' : Int32) (hp1 hp2 : px_H), px_C nm_T nm_P X (.ref a :: t) hp (some (.int v)) hp1 ∧ ab_h nm_GH hp1 ∧ px_C nm_T nm_P M (.ref a' :: t) hp1 (some (.int v')) hp2 ∧ ab_h nm_GH hp2 ∧ (cmp = true → v = v') ∧ sd_R hp2
theorem di_no : ∀ κ ∈ ([] : List ac_K), nm_ok κ := fun _ h => absurd h List.not_mem_nil
def di_B (c d : Nat) (z : Int) : ac_S := ([(0, ((2, 0, 0, [c]), none)), (1, ((0, -2147483648, 2147483647, []), some (2, 1, 0))), (2, ((0, -2147483648, 2147483647, []), some (2, 2, 0)))], [((0, 0, z - 1, []), some (2, 1, 0)), ((2, 0, 0, [d]), none)], [], [], [], [])
set_option maxRecDepth 1000000 in
theorem di_t : (List.range 11).all (fun z => ex_ps (-1) 28 32 (di_B 0 3 (z : Nat)) (di_B 69 72 (z : Nat)) (ex_runS [] [] [] [] mi_X_debt mm_X_debt kc_X_debt_0.2.1 [(1, 0, 0, (z : Nat), (z : Nat), [])] [28]) (ex_runS [] [] [(69, 0)] [] mi_M_debt mm_M_debt kc_M_debt_0.2.1 [(69, 3, 0, (z : Nat), (z : Nat), [])] [32])) = true := by decide +kernel
theorem di_bd {hp : px_H} (hG : ab_h nm_GH hp) {z : Int32} (h : ac_fv hp 1 0 = some (.int z)) : 0 ≤ z.toInt ∧ z.toInt ≤ 10 := by
  obtain ⟨w, w1, w2, w3⟩ := ex_fv (c := 1) (k := 0) (by decide +kernel) hG
  rw [h] at w1
  cases w1
  exact ⟨w2, w3⟩
theorem sd_debt {hp : px_H} {a1 a2 : Int32} (hG : ab_h nm_GH hp) (hR : sd_R hp) : sd_twoR mi_X_debt mi_M_debt true 0 69 [.int a1, .int a2] hp := by
  have hR0 := hR
  obtain ⟨z, f, g, h1, h2, h3, h4, h5⟩ := hR
  obtain ⟨z0, z9⟩ := di_bd hG h1
  have t := List.all_eq_true.mp di_t z.toInt.toNat (List.mem_range.mpr (by omega))
  have e1 : ((z.toInt.toNat : Nat) : Int) ≤ z.toInt := by omega
  have e2 : z.toInt ≤ ((z.toInt.toNat : Nat) : Int) := by omega
  rcases ex_hyb di_no di_no rfl rfl (Nat.le_of_ble_eq_true rfl) (Nat.le_of_ble_eq_true rfl) t hG (a := 0) (a' := 69) (tl := [.int a1, .int a2]) ⟨⟨rfl, List.mem_cons_self⟩, ⟨rfl, ab_i32 _⟩, ⟨rfl, ab_i32 _⟩, trivial⟩ ⟨⟨rfl, List.mem_cons_self⟩, ⟨rfl, ab_i32 _⟩, ⟨rfl, ab_i32 _⟩, trivial⟩ (ex_ov1 h1 e1 e2) with ⟨v, hp1, c1, v1, g1, f1, hM⟩ | ⟨lv, st, hp1, γ, s1, f1, hX, hM⟩
  · have hR1 := sd_R_fr f1 (by decide) hR0
    obtain ⟨v', hp2, c2, v2, g2, f2⟩ := hM hp1 g1 (ex_ov1 (ex_fv_fr f1 (by decide) h2) e1 e2)
    exact ⟨v, v', hp1, hp2, c1, g1, c2, g2, fun _ => by rw [← Int32.toInt_inj, v1, v2], sd_R_fr f2 (by decide) hR1⟩
  · obtain ⟨b1, b2, b3, -⟩ := s1
    obtain ⟨u0, l0, o0⟩ := b1 0 _ (List.mem_cons_self)
    obtain ⟨u1, l1, o1⟩ := b1 1 _ (List.mem_cons_of_mem _ List.mem_cons_self)
    obtain ⟨u2, l2, o2⟩ := b1 2 _ (List.mem_cons_of_mem _ (List.mem_cons_of_mem _ List.mem_cons_self))
    obtain ⟨c0, rfl, e0⟩ := ab_f2 o0.1
    cases List.mem_singleton.mp e0
    obtain ⟨rfl, -, -⟩ := ex_org o1
    obtain ⟨rfl, -, -⟩ := ex_org o2
    have x1 : ac_xs [.ref 0, .int a1, .int a2] 1 = a1 := rfl
    have x2 : ac_xs [.ref 0, .int a1, .int a2] 2 = a2 := rfl
    rw [x1] at l1
    rw [x2] at l2
    match st, b2, hX with
    | [w1, w2], ⟨s1, s2, _⟩, hX =>
      obtain ⟨rfl, p0, p9⟩ := ex_org s1
      obtain ⟨c6, rfl, e6⟩ := ab_f2 s2.1
      cases List.mem_singleton.mp e6
      rw [x1] at hX p0 p9
      have p8 : a1.toInt ≤ ((z.toInt.toNat : Nat) : Int) - 1 := p9
      obtain ⟨fs0, hx0, -, -⟩ := ac_obj b3 (c := 0) rfl
      obtain ⟨fs1, hx1, -, -⟩ := ac_obj b3 (c := 1) rfl
      have h3' : hp1[3]? = some (.inl (13, 10, .inl f)) := f1.1 _ _ (by decide) h3
      have h4' : hp1[na_owes]? = some (.inl (nr_owes, 10, .inl g)) := f1.1 _ _ (by decide) h4
      have h1' := ex_fv_fr f1 (by decide) h1
      have h2' := ex_fv_fr f1 (by decide) h2
      have hgX : ab_h nm_GH (hp1.set 3 (.inl (13, 10, .inl (upd f a1.toNatClampNeg a2)))) := ac_h_arr b3 h3' rfl ⟨rfl, rfl, fun j _ => ⟨rfl, ab_i32 _⟩⟩
      have cX : px_C nm_T nm_P mi_X_debt [.ref 0, .int a1, .int a2] hp (some (.int (f a1.toNatClampNeg))) (hp1.set 3 (.inl (13, 10, .inl (upd f a1.toNatClampNeg a2)))) := by
        refine hX _ _ ?_
        refine px_q_iald (len := 1) rfl h3' rfl (nm_ixR a1 10 p0 (by omega)) ?_
        refine px_Z_its (pc1 := 30) (lv1 := px_st1 lv 3 (.int (f a1.toNatClampNeg))) (st1 := []) (hp1 := hp1) 1 (fun _ _ _ _ => rfl) ?_
        refine px_q_aln (len := 1) (j := 0) rfl (px_st1_nr l0) ?_
        refine px_q_get (len := 3) (ci := 8) (k := 0) (fs := fs0) (v := .ref 1) rfl rfl hx0 (ac_refF b3 (ci := 8) (k := 0) (c := 0) (d := 1) rfl hx0) ?_
        refine px_q_get (len := 3) (ci := 6) (k := 2) (fs := fs1) (v := .ref 3) rfl rfl hx1 (ac_refF b3 (ci := 6) (k := 2) (c := 1) (d := 3) rfl hx1) ?_
        refine px_q_iln (len := 1) (j := 1) rfl (px_st1_ne l1) ?_
        refine px_q_iln (len := 1) (j := 2) rfl (ab_sto1_find l2 (by decide) (fun _ hc => by cases hc)) ?_
        refine px_q_iast (len := 1) rfl h3' rfl (nm_ixR a1 10 p0 (by omega)) ?_
        refine px_q_iln (pc := 40) (len := 1) (j := 3) rfl (px_st1_at _ _ _) ?_
        exact px_q_iret (len := 1) (ty := .int) rfl rfl rfl
      have h2q : ac_fv (hp1.set 3 (.inl (13, 10, .inl (upd f a1.toNatClampNeg a2)))) 69 3 = some (.int z) := by rw [ac_fv_arr h3']; exact h2'
      have h1q : ac_fv (hp1.set 3 (.inl (13, 10, .inl (upd f a1.toNatClampNeg a2)))) 1 0 = some (.int z) := by rw [ac_fv_arr h3']; exact h1'
      have h4q : (hp1.set 3 (.inl (13, 10, .inl (upd f a1.toNatClampNeg a2))))[na_owes]? = some (.inl (nr_owes, 10, .inl g)) := by rw [List.getElem?_set_ne (by decide)]; exact h4'
      have h3q : (hp1.set 3 (.inl (13, 10, .inl (upd f a1.toNatClampNeg a2))))[3]? = some (.inl (13, 10, .inl (upd f a1.toNatClampNeg a2))) := List.getElem?_set_self (List.getElem?_eq_some_iff.mp h3').1
      generalize hp1.set 3 (.inl (13, 10, .inl (upd f a1.toNatClampNeg a2))) = hq at hgX cX h1q h2q h3q h4q
      obtain ⟨lv2, st2, hq1, γ2, s9, f2, hMc⟩ := hM hq hgX (ex_ov1 h2q e1 e2)
      obtain ⟨y1, y2, y3, -⟩ := s9
      obtain ⟨t0, k0, i0⟩ := y1 0 _ (List.mem_cons_self)
      obtain ⟨t1, k1, i1⟩ := y1 1 _ (List.mem_cons_of_mem _ List.mem_cons_self)
      obtain ⟨t2, k2, i2⟩ := y1 2 _ (List.mem_cons_of_mem _ (List.mem_cons_of_mem _ List.mem_cons_self))
      obtain ⟨c1, rfl, e1'⟩ := ab_f2 i0.1
      cases List.mem_singleton.mp e1'
      obtain ⟨rfl, -, -⟩ := ex_org i1
      obtain ⟨rfl, -, -⟩ := ex_org i2
      rw [x1] at k1
      rw [x2] at k2
      match st2, y2, hMc with
      | [w3, w4], ⟨s3, s4, _⟩, hMc =>
        obtain ⟨rfl, -, -⟩ := ex_org s3
        obtain ⟨c75, rfl, e75⟩ := ab_f2 s4.1
        cases List.mem_singleton.mp e75
        rw [x1] at hMc
        obtain ⟨fs, hx, -, -⟩ := ac_obj y3 (c := 69) rfl
        have h4r : hq1[na_owes]? = some (.inl (nr_owes, 10, .inl g)) := f2.1 _ _ (by decide) h4q
        have h3r := f2.1 3 _ (by decide) h3q
        have h1r := ex_fv_fr f2 (by decide) h1q
        have h2r := ex_fv_fr f2 (by decide) h2q
        have hn : a1.toNatClampNeg < 10 := by unfold Int32.toNatClampNeg; omega
        refine ⟨f a1.toNatClampNeg, g a1.toNatClampNeg, hq, hq1.set na_owes (.inl (nr_owes, 10, .inl (upd g a1.toNatClampNeg a2))), cX, hgX, ?_, ac_h_arr y3 h4r rfl ⟨rfl, rfl, fun j _ => ⟨rfl, ab_i32 _⟩⟩, fun _ => (h5 _ hn).1, z, _, _, by rw [ac_fv_arr h4r]; exact h1r, by rw [ac_fv_arr h4r]; exact h2r, by rw [List.getElem?_set_ne (by decide)]; exact h3r, List.getElem?_set_self (List.getElem?_eq_some_iff.mp h4r).1, fun i hi => ?_⟩
        · refine hMc _ _ ?_
          refine px_q_iald (len := 1) rfl h4r rfl (nm_ixR a1 10 p0 (by omega)) ?_
          refine px_Z_its (pc1 := 34) (lv1 := px_st1 lv2 3 (.int (g a1.toNatClampNeg))) (st1 := []) (hp1 := hq1) 1 (fun _ _ _ _ => rfl) ?_
          refine px_q_aln (len := 1) (j := 0) rfl (px_st1_nr k0) ?_
          refine px_q_get (len := 3) (ci := 9) (k := nf_owes) (fs := fs) (v := .ref na_owes) rfl rfl hx (nm_f y3 hx rfl) ?_
          refine px_q_iln (len := 1) (j := 1) rfl (px_st1_ne k1) ?_
          refine px_q_iln (len := 1) (j := 2) rfl (ab_sto1_find k2 (by decide) (fun _ hc => by cases hc)) ?_
          refine px_q_iast (len := 1) rfl h4r rfl (nm_ixR a1 10 p0 (by omega)) ?_
          refine px_q_iln (pc := 41) (len := 1) (j := 3) rfl (px_st1_at _ _ _) ?_
          exact px_q_iret (len := 1) (ty := .int) rfl rfl rfl
        · have hne : z.toInt ≤ i → i ≠ a1.toNatClampNeg := fun h e => by
            have : a1.toNatClampNeg = a1.toInt.toNat := rfl
            omega
          simp only [upd]
          split
          · rename_i e
            exact ⟨rfl, fun h => absurd e (hne h)⟩
          · exact h5 i hi
/-! person -/
def dp_B (z : Int) : ac_S := ([], [((0, 0, 5, []), none), ((2, 0, 0, [1]), none)], [(1, 0, 0, z, min z 9, [])], [], [], [])
def dp_M (z : Int) : ac_S := ([(0, ((2, 0, 0, [69]), none))], [((0, 0, 0, []), none), ((0, z, z, []), none), ((2, 0, 0, [72]), none)], [(69, 3, 0, z, z, [])], [], [], [])
def dp_N (z : Int) : ac_S := ([(0, ((2, 0, 0, [69]), none))], [], [(69, 3, 0, z, z, [])], [], [], [])
set_option maxRecDepth 1000000 in
theorem dp_t : (List.range 11).all (fun z => ex_ps (-1) 29 47 (dp_B (z : Nat)) (dp_M (z : Nat)) (ex_runS [] [] [] [] mi_X_person mm_X_person kc_X_person_0.2.1 [(1, 0, 0, (z : Nat), (z : Nat), [])] [29]) (ex_runS [] [] [(69, 0)] [na_home] mi_M_person mm_M_person kc_M_person_0.2.1 [(69, 3, 0, (z : Nat), (z : Nat), [])] [47])) = true := by decide +kernel
def dp_g (z : Int) : Bool := match ac_run nm_T nm_P nm_GH nm_FA [] [] [(1, 0)] [2, 4, 5, 6] 20000 false [] mi_X_person mm_X_person 29 (dp_B z) with
  | some (os, []) => os.all (ex_rz z 1 0 (z + 1))
  | _ => false
def dp_h (z : Int) : Bool := match ac_run nm_T nm_P nm_GH nm_FA [] [] [(69, 3)] [na_goneFrom, na_goneTo, na_dead] 20000 false [] mi_M_person mm_M_person 48 (dp_N z) with
  | some (os, []) => os.all (ex_rz z 69 3 (z + 1))
  | _ => false
set_option maxRecDepth 1000000 in
theorem dp_u : (List.range 10).all (fun z => dp_g (z : Nat) && dp_h (z : Nat)) = true := by decide +kernel
theorem sd_person {hp : px_H} {a1 : Int32} (hG : ab_h nm_GH hp) (hR : sd_R hp) : sd_twoR mi_X_person mi_M_person true 0 69 [.int a1] hp := by
  have hR0 := hR
  obtain ⟨z, f, g, h1, h2, h3, h4, h5⟩ := hR
  obtain ⟨z0, z9⟩ := di_bd hG h1
  have t := List.all_eq_true.mp dp_t z.toInt.toNat (List.mem_range.mpr (by omega))
  have e1 : ((z.toInt.toNat : Nat) : Int) ≤ z.toInt := by omega
  have e2 : z.toInt ≤ ((z.toInt.toNat : Nat) : Int) := by omega
  rcases ex_hyb di_no di_no rfl rfl (Nat.le_of_ble_eq_true rfl) (Nat.le_of_ble_eq_true rfl) t hG (a := 0) (a' := 69) (tl := [.int a1]) ⟨⟨rfl, List.mem_cons_self⟩, ⟨rfl, ab_i32 _⟩, trivial⟩ ⟨⟨rfl, List.mem_cons_self⟩, ⟨rfl, ab_i32 _⟩, trivial⟩ (ex_ov1 h1 e1 e2) with ⟨v, hp1, c1, v1, g1, f1, hM⟩ | ⟨lv, st, hp1, γ, s1, f1, hX, hM⟩
  · have hR1 := sd_R_fr f1 (by decide) hR0
    obtain ⟨v', hp2, c2, v2, g2, f2⟩ := hM hp1 g1 (ex_ov1 (ex_fv_fr f1 (by decide) h2) e1 e2)
    exact ⟨v, v', hp1, hp2, c1, g1, c2, g2, fun _ => by rw [← Int32.toInt_inj, v1, v2], sd_R_fr f2 (by decide) hR1⟩
  · have h1' := ex_fv_fr f1 (by decide) h1
    have zz := s1.2.2.2.1 (1, 0, 0, ((z.toInt.toNat : Nat) : Int), min ((z.toInt.toNat : Nat) : Int) 9, []) List.mem_cons_self (.int z) h1'
    have z8 : z.toInt ≤ min ((z.toInt.toNat : Nat) : Int) 9 := zz.2.2
    have z8 : z.toInt ≤ 9 := by omega
    have u := List.all_eq_true.mp dp_u z.toInt.toNat (List.mem_range.mpr (by omega))
    simp only [Bool.and_eq_true] at u
    obtain ⟨u1, u2⟩ := u
    unfold dp_g at u1
    split at u1
    rotate_left
    · cases u1
    rename_i os hos
    obtain ⟨r, hp4, q, n1, n2, n3, n4⟩ := ex_goOn di_no hos s1
    have hz := List.all_eq_true.mp u1 q n1
    simp only [ex_rz, Bool.and_eq_true] at hz
    obtain ⟨v, rfl, hv⟩ := ex_rt_ok hz.1 n3
    obtain ⟨v9, w, e9, w1, w2⟩ := ex_ze_ok (by decide +kernel) hz.2 n3
    have h3q : hp4[3]? = some (.inl (13, 10, .inl f)) := n4.1 _ _ (by decide) (f1.1 _ _ (by decide) h3)
    have h4q : hp4[na_owes]? = some (.inl (nr_owes, 10, .inl g)) := n4.1 _ _ (by decide) (f1.1 _ _ (by decide) h4)
    have h2q := ex_fv_fr n4 (by decide) (ex_fv_fr f1 (by decide) h2)
    obtain ⟨lv2, st2, hq1, γ3, s9, f2, hMc⟩ := hM hp4 n3.2.1 (ex_ov1 h2q e1 e2)
    have h4r : hq1[na_owes]? = some (.inl (nr_owes, 10, .inl g)) := f2.1 _ _ (by decide) h4q
    obtain ⟨b1, b2, b3, b4, -⟩ := s9
    match st2, b2, hMc with
    | [w3, w4, w5], ⟨t1, t2, t3, _⟩, hMc =>
      obtain ⟨k, rfl, hk⟩ := ab_f0 t1.1
      obtain ⟨j, rfl, hj⟩ := ab_f0 t2.1
      obtain ⟨c', rfl, e⟩ := ab_f2 t3.1
      cases List.mem_singleton.mp e
      have k1 : (0 : Int) ≤ k.toInt := hk.1
      have k2 : k.toInt ≤ (0 : Int) := hk.2
      have hk9 : k = 0 := by
        rw [← Int32.toInt_inj, Int32.toInt_zero]
        omega
      subst hk9
      have j1 : ((z.toInt.toNat : Nat) : Int) ≤ j.toInt := hj.1
      have j2 : j.toInt ≤ ((z.toInt.toNat : Nat) : Int) := hj.2
      have hjn : j.toNatClampNeg = z.toInt.toNat := by unfold Int32.toNatClampNeg; omega
      have hG2 : ab_h nm_GH (hq1.set na_owes (.inl (nr_owes, 10, .inl (upd g z.toInt.toNat 0)))) := ac_h_arr b3 (c := na_owes) h4r rfl (y := (nr_owes, 10, .inl (upd g z.toInt.toNat 0))) ⟨rfl, rfl, fun j _ => ⟨rfl, ab_i32 _⟩⟩
      have hlv := ex_sA (hq1.set na_owes (.inl (nr_owes, 10, .inl (upd g z.toInt.toNat 0)))) (L := (dp_N ((z.toInt.toNat : Nat) : Int)).1) rfl b1
      have hov : ac_ov (dp_N ((z.toInt.toNat : Nat) : Int)).2.2.1 (hq1.set na_owes (.inl (nr_owes, 10, .inl (upd g z.toInt.toNat 0)))) := ex_ovA h4r b4
      have hc9 : (hq1.set na_owes (.inl (nr_owes, 10, .inl (upd g z.toInt.toNat 0))))[na_owes]? = some (.inl (nr_owes, 10, .inl (upd g z.toInt.toNat 0))) := List.getElem?_set_self (List.getElem?_eq_some_iff.mp h4r).1
      have h3r : (hq1.set na_owes (.inl (nr_owes, 10, .inl (upd g z.toInt.toNat 0))))[3]? = some (.inl (13, 10, .inl f)) := by rw [List.getElem?_set_ne (by decide)]; exact f2.1 _ _ (by decide) h3q
      have h1r : ac_fv (hq1.set na_owes (.inl (nr_owes, 10, .inl (upd g z.toInt.toNat 0)))) 1 0 = some (.int w) := by rw [ac_fv_arr h4r]; exact ex_fv_fr f2 (by decide) w1
      generalize hh : hq1.set na_owes (.inl (nr_owes, 10, .inl (upd g z.toInt.toNat 0))) = hpA at hG2 hlv hov hc9 h3r h1r
      unfold dp_h at u2
      split at u2
      rotate_left
      · cases u2
      rename_i os2 hos2
      obtain ⟨r', hp5, q', y1, y2, y3, y4⟩ := ex_goOn di_no hos2 (xs := ac_xs [.ref 0, .int a1]) (γ := fun _ => 0) (lv := lv2) (st := []) (hp := hpA) ⟨hlv, trivial, hG2, hov, fun j q hq => (by simp [dp_N] at hq), fun i hi => (by cases hi), fun q hq => (by cases hq)⟩
      have hz2 := List.all_eq_true.mp u2 q' y1
      simp only [ex_rz, Bool.and_eq_true] at hz2
      obtain ⟨v', rfl, hv'⟩ := ex_rt_ok hz2.1 y3
      obtain ⟨v8, w', e8, w1', w2'⟩ := ex_ze_ok (by decide +kernel) hz2.2 y3
      have hw : w = w' := by rw [← Int32.toInt_inj, w2, w2']
      subst hw
      refine ⟨v, v', hp4, hp5, hX _ _ n2, n3.2.1, hMc _ _ ?_, y3.2.1, fun _ => by rw [← Int32.toInt_inj, hv, hv'], w, f, upd g z.toInt.toNat 0, ex_fv_fr y4 (by decide) h1r, w1', y4.1 _ _ (by decide) h3r, y4.1 _ _ (by decide) hc9, fun i hi => ?_⟩
      · refine px_q_iast (len := 1) rfl h4r rfl (nm_ixR j 10 (by omega) (by omega)) ?_
        rw [hjn, hh]
        exact y2
      · have := h5 i hi
        refine ⟨?_, fun h => this.2 (by omega)⟩
        simp only [upd]
        split
        · rename_i e
          exact this.2 (by omega)
        · exact this.1
/-! sheet -/
theorem px_q_math {T : px_T} {X : Option (Nat × (Nat → Int32))} {P : List px_M} {M : px_M} {pc len idx w z1 : Nat} {z2 : Int} {lv : List (Nat × Value)} {st st' : List Value} {hp hp' : px_H} {r : Option Value} (hf : px_find pc (px_cd M) = some (len, .invokestatic idx)) (hj : px_find idx (px_cp M) = some (11, w, z1, z2)) (hm : px_math w st = some st') (h8 : ((st.drop 2).map fun v => v.category).sum ≤ 8)
    (hR : px_Z T X P M (pc + 3) lv st' hp r hp') : px_Z T X P M pc lv st hp r hp' := by
  obtain ⟨n0, k, h2⟩ := hR
  refine ⟨n0, 1 + k, fun m hm9 N0 nc ns q1 q2 => px_its_run 1 ?_ (h2 m hm9 N0 nc ns q1 q2)⟩
  simp only [px_its, px_step, hf, px_alu, hj, hm, decide_eq_true h8, decide_eq_true q1, decide_eq_true q2]
def sh_c9 : Int32 := (Int16.ofInt 999).toInt32
def sh_cv (k v : Int32) : Int32 := if k = 0 then v.toInt8.toInt32 else if k = 1 then v.toInt16.toInt32 else v
def sh_mn (v : Int32) : Int32 := if v < sh_c9 then v else sh_c9
def sh_cl (v : Int32) : Int32 := if (0 : Int32) < sh_mn v then sh_mn v else 0
/-- the entry at a place, what is noted there, and their sum -/
def sh_e (f step : Int32) : Nat → Int32
  | 0 => f
  | p + 1 => sh_e f step p + step
def sh_t (k n f step : Int32) (i : Nat) : Int32 := if k = 3 ∨ n.toInt ≤ i then 0 else sh_cl (sh_cv k (sh_e f step i))
def sh_s (k n f step : Int32) : Nat → Int32
  | 0 => 0
  | p + 1 => sh_s k n f step p + sh_t k n f step p
def sh_G (k n f step : Int32) (g : Nat → Int32) (p : Nat) : Nat → Int32 := fun i => if i < p then sh_t k n f step i else g i
theorem sh_G_up (k n f step : Int32) (g : Nat → Int32) (p : Nat) : upd (sh_G k n f step g p) p (sh_t k n f step p) = sh_G k n f step g (p + 1) := by
  funext i
  simp only [upd, sh_G]
  by_cases h1 : i = p
  · subst h1
    rw [if_pos rfl, if_pos (by omega)]
  · rw [if_neg h1]
    by_cases h2 : i < p
    · rw [if_pos h2, if_pos (by omega)]
    · rw [if_neg h2, if_neg (by omega)]
theorem sh_eq {x y : Int32} {c : ClassFile.Cond} (hc : c = .eq) : px_cmp c x y = decide (x = y) := by subst hc; rfl
theorem sh_ne {x y : Int32} : px_cmp .ne x y = decide (¬ x = y) := rfl
/-! the class: one day -/
theorem sh_tail (k v u : Int32) (hp : px_H) : px_Z nm_T none nm_P mm_X_dayOnSheet 20 [(2, .int u), (0, .int k), (1, .int v)] [] hp (some (.int (sh_cl u))) hp := by
  refine px_Z_its (pc1 := 25) (lv1 := [(2, .int u), (0, .int k), (1, .int v)]) (st1 := [.int u, .int sh_c9, .int 0]) (hp1 := hp) 3 (fun _ _ _ _ => rfl) ?_
  refine px_q_math (len := 3) (w := 1) (st' := [.int (sh_mn u), .int 0]) rfl rfl rfl (Nat.le_of_ble_eq_true rfl) ?_
  refine px_q_math (len := 3) (w := 0) (st' := [.int (sh_cl u)]) rfl rfl rfl (Nat.le_of_ble_eq_true rfl) ?_
  exact px_q_iret (len := 1) (ty := .int) rfl rfl rfl
theorem sh_day (k v : Int32) (hp : px_H) : px_C nm_T nm_P mi_X_dayOnSheet [.int k, .int v] hp (some (.int (sh_cl (sh_cv k v)))) hp := by
  refine px_C_of (N := mm_X_dayOnSheet) rfl (Nat.le_of_ble_eq_true rfl) ?_
  refine px_Z_its (pc1 := 3) (lv1 := [(2, .int v), (0, .int k), (1, .int v)]) (st1 := [.int k]) (hp1 := hp) 3 (fun _ _ _ _ => rfl) ?_
  unfold sh_cv
  by_cases h0 : k = 0
  · rw [if_pos h0]
    refine px_q_if (bb := false) (len := 3) (c := .ne) (off := 9) rfl (by rw [sh_ne]; simp [h0]) ?_
    refine px_Z_its (pc1 := 20) (lv1 := [(2, .int v.toInt8.toInt32), (0, .int k), (1, .int v)]) (st1 := []) (hp1 := hp) 4 (fun _ _ _ _ => rfl) ?_
    exact sh_tail _ _ _ _
  · rw [if_neg h0]
    refine px_q_if (bb := true) (len := 3) (c := .ne) (off := 9) rfl (by rw [sh_ne]; simp [h0]) ?_
    refine px_Z_its (pc1 := 14) (lv1 := [(2, .int v), (0, .int k), (1, .int v)]) (st1 := [.int 1, .int k]) (hp1 := hp) 2 (fun _ _ _ _ => rfl) ?_
    by_cases h1 : k = 1
    · rw [if_pos h1]
      refine px_q_icmp (bb := false) (len := 3) (c := .ne) (off := 6) rfl (by rw [sh_ne]; simp [h1]) ?_
      refine px_Z_its (pc1 := 20) (lv1 := [(2, .int v.toInt16.toInt32), (0, .int k), (1, .int v)]) (st1 := []) (hp1 := hp) 3 (fun _ _ _ _ => rfl) ?_
      exact sh_tail _ _ _ _
    · rw [if_neg h1]
      refine px_q_icmp (bb := true) (len := 3) (c := .ne) (off := 6) rfl (by rw [sh_ne]; simp [h1]) ?_
      exact sh_tail _ _ _ _
/-! the class: clearDebts -/
theorem sh_clr {z : Int32} {f : Nat → Int32} (z0 : 0 ≤ z.toInt) (z9 : z.toInt ≤ 10) : ∀ (m p : Nat) (lv : List (Nat × Value)) (hp : px_H), z.toInt = (p : Int) + m → ab_h nm_GH hp → ac_fv hp 1 0 = some (.int z) → hp[3]? = some (.inl (13, 10, .inl (fun i => if i < p then 0 else f i))) → px_find 0 lv = some (.ref 1) → px_find 1 lv = some (.int (Int32.ofNat p)) →
    ∃ hp' : px_H, px_Z nm_T none nm_P mm_Town_clearDebts 2 lv [] hp none hp' ∧ ab_h nm_GH hp' ∧ hp'[3]? = some (.inl (13, 10, .inl (fun i => if i < z.toInt.toNat then 0 else f i))) ∧ px_fr [] [3] hp hp' := by
  intro m
  induction m with
  | zero =>
    intro p lv hp hm hG h1 h3 l0 l1
    obtain ⟨fs1, hx1, -, -⟩ := ac_obj hG (c := 1) rfl
    have hz := dr_fvo hx1 h1
    have ei := nm_ofNat_toInt p (by omega)
    refine ⟨hp, ?_, hG, by rw [show z.toInt.toNat = p from by omega]; exact h3, px_fr_rf _ _ _⟩
    refine px_q_iln (len := 1) (j := 1) rfl l1 ?_
    refine px_q_aln (len := 1) (j := 0) rfl l0 ?_
    refine px_q_get (len := 3) (ci := 6) (k := 0) (fs := fs1) (v := .int z) rfl rfl hx1 hz ?_
    refine px_q_icmp (bb := true) (len := 3) (c := .ge) (off := 16) rfl (by simp only [px_cmp, decide_eq_true_eq, ge_iff_le, Int32.le_iff_toInt_le, ei]; omega) ?_
    exact px_q_ret (len := 1) rfl rfl
  | succ m ih =>
    intro p lv hp hm hG h1 h3 l0 l1
    obtain ⟨fs1, hx1, -, -⟩ := ac_obj hG (c := 1) rfl
    have hz := dr_fvo hx1 h1
    have ei := nm_ofNat_toInt p (by omega)
    have hpn : (Int32.ofNat p).toNatClampNeg = p := nm_ofNat_clamp p (by omega)
    have hu : upd (fun i => if i < p then (0 : Int32) else f i) p 0 = (fun i => if i < p + 1 then 0 else f i) := by
      funext i
      simp only [upd]
      by_cases e1 : i = p
      · rw [if_pos e1, if_pos (by omega)]
      · rw [if_neg e1]
        by_cases e2 : i < p
        · rw [if_pos e2, if_pos (by omega)]
        · rw [if_neg e2, if_neg (by omega)]
    have hG2 : ab_h nm_GH (hp.set 3 (.inl (13, 10, .inl (fun i => if i < p + 1 then 0 else f i)))) := ac_h_arr hG h3 rfl ⟨rfl, rfl, fun j _ => ⟨rfl, ab_i32 _⟩⟩
    have h32 : (hp.set 3 (.inl (13, 10, .inl (fun i => if i < p + 1 then 0 else f i))))[3]? = some (.inl (13, 10, .inl (fun i => if i < p + 1 then 0 else f i))) := List.getElem?_set_self (List.getElem?_eq_some_iff.mp h3).1
    have h12 : ac_fv (hp.set 3 (.inl (13, 10, .inl (fun i => if i < p + 1 then 0 else f i)))) 1 0 = some (.int z) := by rw [ac_fv_arr h3]; exact h1
    have f2 : px_fr [] [3] hp (hp.set 3 (.inl (13, 10, .inl (fun i => if i < p + 1 then 0 else f i)))) := px_fr_arr h3 (by decide)
    have e1 : Int32.ofNat p + Int32.ofInt 1 = Int32.ofNat (p + 1) := by rw [Int32.ofNat_add]; rfl
    obtain ⟨hp', y1, y2, y3, y4⟩ := ih (p + 1) (px_st1 lv 1 (.int (Int32.ofNat (p + 1)))) _ (by omega) hG2 h12 h32 (px_st1_nr l0) (px_st1_at _ _ _)
    refine ⟨hp', ?_, y2, y3, px_fr_tr f2 y4⟩
    refine px_q_iln (len := 1) (j := 1) rfl l1 ?_
    refine px_q_aln (len := 1) (j := 0) rfl l0 ?_
    refine px_q_get (len := 3) (ci := 6) (k := 0) (fs := fs1) (v := .int z) rfl rfl hx1 hz ?_
    refine px_q_icmp (bb := false) (len := 3) (c := .ge) (off := 16) rfl (by simp only [px_cmp, decide_eq_false_iff_not, ge_iff_le, Int32.le_iff_toInt_le, ei]; omega) ?_
    refine px_q_aln (pc := 10) (len := 1) (j := 0) rfl l0 ?_
    refine px_q_get (len := 3) (ci := 6) (k := 2) (fs := fs1) (v := .ref 3) rfl rfl hx1 (ac_refF hG (ci := 6) (k := 2) (c := 1) (d := 3) rfl hx1) ?_
    refine px_q_iln (len := 1) (j := 1) rfl l1 ?_
    refine px_Z_its (pc1 := 16) (lv1 := lv) (st1 := [.int 0, .int (Int32.ofNat p), .ref 3]) (hp1 := hp) 1 (fun _ _ _ _ => rfl) ?_
    refine px_q_iast (len := 1) rfl h3 rfl (nm_ixR _ 10 (by omega) (by omega)) ?_
    rw [hpn, hu]
    refine px_q_iinc (pc := 17) (len := 3) (j := 1) (n := 1) rfl l1 rfl ?_
    rw [e1]
    exact px_Z_its (pc1 := 2) (lv1 := px_st1 lv 1 (.int (Int32.ofNat (p + 1)))) (st1 := []) 1 (fun _ _ _ _ => rfl) y1
theorem sh_clear {hp : px_H} {z : Int32} {f : Nat → Int32} (hG : ab_h nm_GH hp) (h1 : ac_fv hp 1 0 = some (.int z)) (h3 : hp[3]? = some (.inl (13, 10, .inl f))) (z0 : 0 ≤ z.toInt) (z9 : z.toInt ≤ 10) : ∃ hp' : px_H, px_C nm_T nm_P mi_Town_clearDebts [.ref 1] hp none hp' ∧ ab_h nm_GH hp' ∧ hp'[3]? = some (.inl (13, 10, .inl (fun i => if i < z.toInt.toNat then 0 else f i))) ∧ px_fr [] [3] hp hp' := by
  obtain ⟨hp', y1, y2, y3, y4⟩ := sh_clr (f := f) z0 z9 z.toInt.toNat 0 [(1, .int (Int32.ofNat 0)), (0, .ref 1)] hp (by omega) hG h1 (by rw [h3]; simp) rfl rfl
  refine ⟨hp', px_C_of (N := mm_Town_clearDebts) rfl (Nat.le_of_ble_eq_true rfl) ?_, y2, y3, y4⟩
  exact px_Z_its (pc1 := 2) (lv1 := [(1, .int (Int32.ofNat 0)), (0, .ref 1)]) (st1 := []) (hp1 := hp) 2 (fun _ _ _ _ => rfl) y1
/-! the class: the loop -/
theorem sh_X {k n f step z : Int32} {g : Nat → Int32} (z0 : 0 ≤ z.toInt) (z9 : z.toInt ≤ 10) (n0 : 0 ≤ n.toInt) (n9 : n.toInt ≤ 10) (k3 : ¬ k = 3) : ∀ (m p : Nat) (lv : List (Nat × Value)) (hp : px_H), z.toInt = (p : Int) + m → (p : Int) ≤ n.toInt → ab_h nm_GH hp → ac_fv hp 1 0 = some (.int z) → hp[3]? = some (.inl (13, 10, .inl (fun i => if i < p then sh_t k n f step i else g i))) → px_find 0 lv = some (.ref 0) → px_find 1 lv = some (.int k) → px_find 2 lv = some (.int n) → px_find 4 lv = some (.int step) → px_find 5 lv = some (.int (sh_s k n f step p)) → px_find 6 lv = some (.int (sh_e f step p)) → px_find 7 lv = some (.int (Int32.ofNat p)) →
    ∃ (hp' : px_H) (q : Nat), (q : Int) ≤ n.toInt ∧ (q : Int) ≤ z.toInt ∧ ((q : Int) = z.toInt ∨ (q : Int) = n.toInt) ∧ px_Z nm_T none nm_P mm_X_sheet 55 lv [] hp (some (.int (sh_s k n f step q))) hp' ∧ ab_h nm_GH hp' ∧ hp'[3]? = some (.inl (13, 10, .inl (fun i => if i < q then sh_t k n f step i else g i))) ∧ px_fr [] [3] hp hp' := by
  intro m
  have fin : ∀ (p : Nat) (lv : List (Nat × Value)) (hp : px_H), px_find 5 lv = some (.int (sh_s k n f step p)) → px_Z nm_T none nm_P mm_X_sheet 117 lv [] hp (some (.int (sh_s k n f step p))) hp := by
    intro p lv hp l5
    refine px_q_il (len := 2) (j := 5) rfl l5 ?_
    exact px_q_iret (len := 1) (ty := .int) rfl rfl rfl
  induction m with
  | zero =>
    intro p lv hp hm hpn hG h1 h3 l0 l1 l2 l4 l5 l6 l7
    obtain ⟨fs0, hx0, -, -⟩ := ac_obj hG (c := 0) rfl
    obtain ⟨fs1, hx1, -, -⟩ := ac_obj hG (c := 1) rfl
    have hz := dr_fvo hx1 h1
    have ei := nm_ofNat_toInt p (by omega)
    refine ⟨hp, p, hpn, by omega, Or.inl (by omega), ?_, hG, h3, px_fr_rf _ _ _⟩
    refine px_q_il (len := 2) (j := 7) rfl l7 ?_
    refine px_q_aln (len := 1) (j := 0) rfl l0 ?_
    refine px_q_get (len := 3) (ci := 8) (k := 0) (fs := fs0) (v := .ref 1) rfl rfl hx0 (ac_refF hG (ci := 8) (k := 0) (c := 0) (d := 1) rfl hx0) ?_
    refine px_q_get (len := 3) (ci := 6) (k := 0) (fs := fs1) (v := .int z) rfl rfl hx1 hz ?_
    refine px_q_icmp (bb := true) (len := 3) (c := .ge) (off := 53) rfl (by simp only [px_cmp, decide_eq_true_eq, ge_iff_le, Int32.le_iff_toInt_le, ei]; omega) ?_
    exact fin p lv hp l5
  | succ m ih =>
    intro p lv hp hm hpn hG h1 h3 l0 l1 l2 l4 l5 l6 l7
    obtain ⟨fs0, hx0, -, -⟩ := ac_obj hG (c := 0) rfl
    obtain ⟨fs1, hx1, -, -⟩ := ac_obj hG (c := 1) rfl
    have hz := dr_fvo hx1 h1
    have ei := nm_ofNat_toInt p (by omega)
    have hpc : (Int32.ofNat p).toNatClampNeg = p := nm_ofNat_clamp p (by omega)
    have head : ∀ (bb : Bool) (r : Option Value) (h9 : px_H), px_cmp .ge (Int32.ofNat p) n = bb → px_Z nm_T none nm_P mm_X_sheet (bif bb then 117 else 73) lv [] hp r h9 → px_Z nm_T none nm_P mm_X_sheet 55 lv [] hp r h9 := by
      intro bb r h9 hb h
      refine px_q_il (len := 2) (j := 7) rfl l7 ?_
      refine px_q_aln (len := 1) (j := 0) rfl l0 ?_
      refine px_q_get (len := 3) (ci := 8) (k := 0) (fs := fs0) (v := .ref 1) rfl rfl hx0 (ac_refF hG (ci := 8) (k := 0) (c := 0) (d := 1) rfl hx0) ?_
      refine px_q_get (len := 3) (ci := 6) (k := 0) (fs := fs1) (v := .int z) rfl rfl hx1 hz ?_
      refine px_q_icmp (bb := false) (len := 3) (c := .ge) (off := 53) rfl (by simp only [px_cmp, decide_eq_false_iff_not, ge_iff_le, Int32.le_iff_toInt_le, ei]; omega) ?_
      refine px_q_il (pc := 67) (len := 2) (j := 7) rfl l7 ?_
      refine px_q_iln (len := 1) (j := 2) rfl l2 ?_
      refine px_q_icmp (bb := bb) (len := 3) (c := .ge) (off := 47) rfl hb ?_
      cases bb
      · exact h
      · exact h
    by_cases hn : n.toInt ≤ p
    · refine ⟨hp, p, hpn, by omega, Or.inr (by omega), head true _ _ (by simp only [px_cmp, decide_eq_true_eq, ge_iff_le, Int32.le_iff_toInt_le, ei]; exact hn) (fin p lv hp l5), hG, h3, px_fr_rf _ _ _⟩
    · have ht : sh_cl (sh_cv k (sh_e f step p)) = sh_t k n f step p := by
        unfold sh_t
        rw [if_neg (by rintro (h | h); exact k3 h; omega)]
      have hu : upd (fun i => if i < p then sh_t k n f step i else g i) p (sh_t k n f step p) = (fun i => if i < p + 1 then sh_t k n f step i else g i) := sh_G_up k n f step g p
      have hG2 : ab_h nm_GH (hp.set 3 (.inl (13, 10, .inl (fun i => if i < p + 1 then sh_t k n f step i else g i)))) := ac_h_arr hG h3 rfl ⟨rfl, rfl, fun j _ => ⟨rfl, ab_i32 _⟩⟩
      have h32 : (hp.set 3 (.inl (13, 10, .inl (fun i => if i < p + 1 then sh_t k n f step i else g i))))[3]? = some (.inl (13, 10, .inl (fun i => if i < p + 1 then sh_t k n f step i else g i))) := List.getElem?_set_self (List.getElem?_eq_some_iff.mp h3).1
      have h12 : ac_fv (hp.set 3 (.inl (13, 10, .inl (fun i => if i < p + 1 then sh_t k n f step i else g i)))) 1 0 = some (.int z) := by rw [ac_fv_arr h3]; exact h1
      have hx02 : (hp.set 3 (.inl (13, 10, .inl (fun i => if i < p + 1 then sh_t k n f step i else g i))))[0]? = some (.inr (8, fs0)) := by rw [List.getElem?_set_ne (by decide)]; exact hx0
      have hx12 : (hp.set 3 (.inl (13, 10, .inl (fun i => if i < p + 1 then sh_t k n f step i else g i))))[1]? = some (.inr (6, fs1)) := by rw [List.getElem?_set_ne (by decide)]; exact hx1
      have f2 : px_fr [] [3] hp (hp.set 3 (.inl (13, 10, .inl (fun i => if i < p + 1 then sh_t k n f step i else g i)))) := px_fr_arr h3 (by decide)
      generalize hh : hp.set 3 (.inl (13, 10, .inl (fun i => if i < p + 1 then sh_t k n f step i else g i))) = hp2 at hG2 h32 h12 hx02 hx12 f2
      have e1 : Int32.ofNat p + Int32.ofInt 1 = Int32.ofNat (p + 1) := by rw [Int32.ofNat_add]; rfl
      generalize hlA : px_st1 lv 5 (.int (sh_s k n f step (p + 1))) = lvA
      have a0 : px_find 0 lvA = some (.ref 0) := by rw [← hlA]; exact px_st1_nr l0
      have a1 : px_find 1 lvA = some (.int k) := by rw [← hlA]; exact ab_sto1_find l1 (by decide) (fun _ hc => by cases hc)
      have a2 : px_find 2 lvA = some (.int n) := by rw [← hlA]; exact ab_sto1_find l2 (by decide) (fun _ hc => by cases hc)
      have a4 : px_find 4 lvA = some (.int step) := by rw [← hlA]; exact ab_sto1_find l4 (by decide) (fun _ hc => by cases hc)
      have a5 : px_find 5 lvA = some (.int (sh_s k n f step (p + 1))) := by rw [← hlA]; exact px_st1_at _ _ _
      have a6 : px_find 6 lvA = some (.int (sh_e f step p)) := by rw [← hlA]; exact ab_sto1_find l6 (by decide) (fun _ hc => by cases hc)
      have a7 : px_find 7 lvA = some (.int (Int32.ofNat p)) := by rw [← hlA]; exact ab_sto1_find l7 (by decide) (fun _ hc => by cases hc)
      generalize hlB : px_st1 lvA 6 (.int (sh_e f step (p + 1))) = lvB
      have b0 : px_find 0 lvB = some (.ref 0) := by rw [← hlB]; exact px_st1_nr a0
      have b1 : px_find 1 lvB = some (.int k) := by rw [← hlB]; exact ab_sto1_find a1 (by decide) (fun _ hc => by cases hc)
      have b2 : px_find 2 lvB = some (.int n) := by rw [← hlB]; exact ab_sto1_find a2 (by decide) (fun _ hc => by cases hc)
      have b4 : px_find 4 lvB = some (.int step) := by rw [← hlB]; exact ab_sto1_find a4 (by decide) (fun _ hc => by cases hc)
      have b5 : px_find 5 lvB = some (.int (sh_s k n f step (p + 1))) := by rw [← hlB]; exact ab_sto1_find a5 (by decide) (fun _ hc => by cases hc)
      have b6 : px_find 6 lvB = some (.int (sh_e f step (p + 1))) := by rw [← hlB]; exact px_st1_at _ _ _
      have b7 : px_find 7 lvB = some (.int (Int32.ofNat p)) := by rw [← hlB]; exact ab_sto1_find a7 (by decide) (fun _ hc => by cases hc)
      obtain ⟨hp', q, y0, y1, y2, y3, y4, y5, y6⟩ := ih (p + 1) (px_st1 lvB 7 (.int (Int32.ofNat (p + 1)))) hp2 (by omega) (by omega) hG2 h12 h32 (px_st1_nr b0) (ab_sto1_find b1 (by decide) (fun _ hc => by cases hc)) (ab_sto1_find b2 (by decide) (fun _ hc => by cases hc)) (ab_sto1_find b4 (by decide) (fun _ hc => by cases hc)) (ab_sto1_find b5 (by decide) (fun _ hc => by cases hc)) (ab_sto1_find b6 (by decide) (fun _ hc => by cases hc)) (px_st1_at _ _ _)
      refine ⟨hp', q, y0, y1, y2, head false _ _ (by simp only [px_cmp, decide_eq_false_iff_not, ge_iff_le, Int32.le_iff_toInt_le, ei]; exact hn) ?_, y4, y5, px_fr_tr f2 y6⟩
      refine px_q_aln (pc := 73) (len := 1) (j := 0) rfl l0 ?_
      refine px_q_get (len := 3) (ci := 8) (k := 0) (fs := fs0) (v := .ref 1) rfl rfl hx0 (ac_refF hG (ci := 8) (k := 0) (c := 0) (d := 1) rfl hx0) ?_
      refine px_q_get (len := 3) (ci := 6) (k := 2) (fs := fs1) (v := .ref 3) rfl rfl hx1 (ac_refF hG (ci := 6) (k := 2) (c := 1) (d := 3) rfl hx1) ?_
      refine px_q_il (len := 2) (j := 7) rfl l7 ?_
      refine px_q_iln (len := 1) (j := 1) rfl l1 ?_
      refine px_q_il (len := 2) (j := 6) rfl l6 ?_
      refine px_q_stat (len := 3) (n := 2) (N := mm_X_dayOnSheet) (mi := mi_X_dayOnSheet) rfl rfl rfl (Nat.le_of_ble_eq_true rfl) (Nat.le_of_ble_eq_true rfl) rfl rfl (sh_day _ _ _) ?_
      rw [ht]
      refine px_q_iast (len := 1) rfl h3 rfl (nm_ixR _ 10 (by omega) (by omega)) ?_
      rw [hpc, hu, hh]
      refine px_q_il (pc := 89) (len := 2) (j := 5) rfl l5 ?_
      refine px_q_aln (len := 1) (j := 0) rfl l0 ?_
      refine px_q_get (len := 3) (ci := 8) (k := 0) (fs := fs0) (v := .ref 1) rfl rfl hx02 (ac_refF hG2 (ci := 8) (k := 0) (c := 0) (d := 1) rfl hx02) ?_
      refine px_q_get (len := 3) (ci := 6) (k := 2) (fs := fs1) (v := .ref 3) rfl rfl hx12 (ac_refF hG2 (ci := 6) (k := 2) (c := 1) (d := 3) rfl hx12) ?_
      refine px_q_il (len := 2) (j := 7) rfl l7 ?_
      refine px_q_iald (len := 1) rfl h32 rfl (nm_ixR _ 10 (by omega) (by omega)) ?_
      rw [hpc, if_pos (by omega)]
      refine px_Z_its (pc1 := 104) (lv1 := lvA) (st1 := []) (hp1 := hp2) 2 (fun _ _ _ _ => by rw [← hlA]; rfl) ?_
      refine px_q_il (len := 2) (j := 6) rfl a6 ?_
      refine px_q_il (len := 2) (j := 4) rfl a4 ?_
      refine px_Z_its (pc1 := 111) (lv1 := lvB) (st1 := []) (hp1 := hp2) 2 (fun _ _ _ _ => by rw [← hlB]; rfl) ?_
      refine px_q_iinc (len := 3) (j := 7) (n := 1) rfl b7 rfl ?_
      rw [e1]
      exact px_Z_its (pc1 := 55) (lv1 := px_st1 lvB 7 (.int (Int32.ofNat (p + 1)))) (st1 := []) (hp1 := hp2) 1 (fun _ _ _ _ => rfl) y3
/-! the model: the loop -/
theorem sh_M {k n f step z : Int32} {g : Nat → Int32} (z0 : 0 ≤ z.toInt) (z9 : z.toInt ≤ 10) : ∀ (m p : Nat) (lv : List (Nat × Value)) (hp : px_H), z.toInt = (p : Int) + m → ab_h nm_GH hp → ac_fv hp 69 3 = some (.int z) → hp[na_owes]? = some (.inl (nr_owes, 10, .inl (fun i => if i < p then sh_t k n f step i else g i))) → px_find 0 lv = some (.ref 69) → px_find 1 lv = some (.int k) → px_find 2 lv = some (.int n) → px_find 4 lv = some (.int step) → px_find 5 lv = some (.int (sh_e f step p)) → px_find 6 lv = some (.int (sh_s k n f step p)) → px_find 7 lv = some (.int (Int32.ofNat p)) →
    ∃ hp' : px_H, px_Z nm_T none nm_P mm_M_sheet 46 lv [] hp (some (.int (if k = 3 then Int32.ofInt (-3) else sh_s k n f step z.toInt.toNat))) hp' ∧ ab_h nm_GH hp' ∧ hp'[na_owes]? = some (.inl (nr_owes, 10, .inl (fun i => if i < z.toInt.toNat then sh_t k n f step i else g i))) ∧ px_fr [] [na_owes] hp hp' := by
  intro m
  induction m with
  | zero =>
    intro p lv hp hm hG h1 h3 l0 l1 l2 l4 l5 l6 l7
    obtain ⟨fs, hx, -, -⟩ := ac_obj hG (c := 69) rfl
    have hz := dr_fvo hx h1
    have ei := nm_ofNat_toInt p (by omega)
    have ep : z.toInt.toNat = p := by omega
    rw [ep]
    refine ⟨hp, ?_, hG, h3, px_fr_rf _ _ _⟩
    refine px_q_il (len := 2) (j := 7) rfl l7 ?_
    refine px_q_aln (len := 1) (j := 0) rfl l0 ?_
    refine px_q_get (len := 3) (ci := 9) (k := nf_persons) (fs := fs) (v := .int z) rfl rfl hx hz ?_
    refine px_q_icmp (bb := true) (len := 3) (c := .ge) (off := 87) rfl (by simp only [px_cmp, decide_eq_true_eq, ge_iff_le, Int32.le_iff_toInt_le, ei]; omega) ?_
    refine px_q_iln (pc := 139) (len := 1) (j := 1) rfl l1 ?_
    refine px_Z_its (pc1 := 141) (lv1 := lv) (st1 := [.int 3, .int k]) (hp1 := hp) 1 (fun _ _ _ _ => rfl) ?_
    by_cases hk : k = 3
    · rw [if_pos hk]
      refine px_q_icmp (bb := false) (len := 3) (c := .ne) (off := 8) rfl (by rw [sh_ne]; simp [hk]) ?_
      refine px_Z_its (pc1 := 151) (lv1 := lv) (st1 := [.int (Int32.ofInt (-3))]) (hp1 := hp) 2 (fun _ _ _ _ => rfl) ?_
      exact px_q_iret (len := 1) (ty := .int) rfl rfl rfl
    · rw [if_neg hk]
      refine px_q_icmp (bb := true) (len := 3) (c := .ne) (off := 8) rfl (by rw [sh_ne]; simp [hk]) ?_
      refine px_q_il (pc := 149) (len := 2) (j := 6) rfl l6 ?_
      exact px_q_iret (len := 1) (ty := .int) rfl rfl rfl
  | succ m ih =>
    intro p lv hp hm hG h1 h3 l0 l1 l2 l4 l5 l6 l7
    obtain ⟨fs, hx, -, -⟩ := ac_obj hG (c := 69) rfl
    have hz := dr_fvo hx h1
    have ei := nm_ofNat_toInt p (by omega)
    have hpc : (Int32.ofNat p).toNatClampNeg = p := nm_ofNat_clamp p (by omega)
    have hu : upd (fun i => if i < p then sh_t k n f step i else g i) p (sh_t k n f step p) = (fun i => if i < p + 1 then sh_t k n f step i else g i) := sh_G_up k n f step g p
    have hG2 : ab_h nm_GH (hp.set na_owes (.inl (nr_owes, 10, .inl (fun i => if i < p + 1 then sh_t k n f step i else g i)))) := ac_h_arr hG (c := na_owes) h3 rfl (y := (nr_owes, 10, .inl (fun i => if i < p + 1 then sh_t k n f step i else g i))) ⟨rfl, rfl, fun j _ => ⟨rfl, ab_i32 _⟩⟩
    have h32 : (hp.set na_owes (.inl (nr_owes, 10, .inl (fun i => if i < p + 1 then sh_t k n f step i else g i))))[na_owes]? = some (.inl (nr_owes, 10, .inl (fun i => if i < p + 1 then sh_t k n f step i else g i))) := List.getElem?_set_self (List.getElem?_eq_some_iff.mp h3).1
    have h12 : ac_fv (hp.set na_owes (.inl (nr_owes, 10, .inl (fun i => if i < p + 1 then sh_t k n f step i else g i)))) 69 3 = some (.int z) := by rw [ac_fv_arr h3]; exact h1
    have hx2 : (hp.set na_owes (.inl (nr_owes, 10, .inl (fun i => if i < p + 1 then sh_t k n f step i else g i))))[69]? = some (.inr (9, fs)) := by rw [List.getElem?_set_ne (by decide)]; exact hx
    have f2 : px_fr [] [na_owes] hp (hp.set na_owes (.inl (nr_owes, 10, .inl (fun i => if i < p + 1 then sh_t k n f step i else g i)))) := px_fr_arr h3 (by decide)
    generalize hh : hp.set na_owes (.inl (nr_owes, 10, .inl (fun i => if i < p + 1 then sh_t k n f step i else g i))) = hp2 at hG2 h32 h12 hx2 f2
    have e1 : Int32.ofNat p + Int32.ofInt 1 = Int32.ofNat (p + 1) := by rw [Int32.ofNat_add]; rfl
    generalize hl8 : px_st1 lv 8 (.int (sh_cv k (sh_e f step p))) = lv8
    have c0 : px_find 0 lv8 = some (.ref 69) := by rw [← hl8]; exact px_st1_nr l0
    have c1 : px_find 1 lv8 = some (.int k) := by rw [← hl8]; exact ab_sto1_find l1 (by decide) (fun _ hc => by cases hc)
    have c2 : px_find 2 lv8 = some (.int n) := by rw [← hl8]; exact ab_sto1_find l2 (by decide) (fun _ hc => by cases hc)
    have c4 : px_find 4 lv8 = some (.int step) := by rw [← hl8]; exact ab_sto1_find l4 (by decide) (fun _ hc => by cases hc)
    have c5 : px_find 5 lv8 = some (.int (sh_e f step p)) := by rw [← hl8]; exact ab_sto1_find l5 (by decide) (fun _ hc => by cases hc)
    have c6 : px_find 6 lv8 = some (.int (sh_s k n f step p)) := by rw [← hl8]; exact ab_sto1_find l6 (by decide) (fun _ hc => by cases hc)
    have c7 : px_find 7 lv8 = some (.int (Int32.ofNat p)) := by rw [← hl8]; exact ab_sto1_find l7 (by decide) (fun _ hc => by cases hc)
    have c8 : px_find 8 lv8 = some (.int (sh_cv k (sh_e f step p))) := by rw [← hl8]; exact px_st1_at _ _ _
    generalize hlA : px_st1 lv8 6 (.int (sh_s k n f step (p + 1))) = lvA
    have a0 : px_find 0 lvA = some (.ref 69) := by rw [← hlA]; exact px_st1_nr c0
    have a1 : px_find 1 lvA = some (.int k) := by rw [← hlA]; exact ab_sto1_find c1 (by decide) (fun _ hc => by cases hc)
    have a2 : px_find 2 lvA = some (.int n) := by rw [← hlA]; exact ab_sto1_find c2 (by decide) (fun _ hc => by cases hc)
    have a4 : px_find 4 lvA = some (.int step) := by rw [← hlA]; exact ab_sto1_find c4 (by decide) (fun _ hc => by cases hc)
    have a5 : px_find 5 lvA = some (.int (sh_e f step p)) := by rw [← hlA]; exact ab_sto1_find c5 (by decide) (fun _ hc => by cases hc)
    have a6 : px_find 6 lvA = some (.int (sh_s k n f step (p + 1))) := by rw [← hlA]; exact px_st1_at _ _ _
    have a7 : px_find 7 lvA = some (.int (Int32.ofNat p)) := by rw [← hlA]; exact ab_sto1_find c7 (by decide) (fun _ hc => by cases hc)
    generalize hlB : px_st1 lvA 5 (.int (sh_e f step (p + 1))) = lvB
    have b0 : px_find 0 lvB = some (.ref 69) := by rw [← hlB]; exact px_st1_nr a0
    have b1 : px_find 1 lvB = some (.int k) := by rw [← hlB]; exact ab_sto1_find a1 (by decide) (fun _ hc => by cases hc)
    have b2 : px_find 2 lvB = some (.int n) := by rw [← hlB]; exact ab_sto1_find a2 (by decide) (fun _ hc => by cases hc)
    have b4 : px_find 4 lvB = some (.int step) := by rw [← hlB]; exact ab_sto1_find a4 (by decide) (fun _ hc => by cases hc)
    have b5 : px_find 5 lvB = some (.int (sh_e f step (p + 1))) := by rw [← hlB]; exact px_st1_at _ _ _
    have b6 : px_find 6 lvB = some (.int (sh_s k n f step (p + 1))) := by rw [← hlB]; exact ab_sto1_find a6 (by decide) (fun _ hc => by cases hc)
    have b7 : px_find 7 lvB = some (.int (Int32.ofNat p)) := by rw [← hlB]; exact ab_sto1_find a7 (by decide) (fun _ hc => by cases hc)
    obtain ⟨hp', y3, y4, y5, y6⟩ := ih (p + 1) (px_st1 lvB 7 (.int (Int32.ofNat (p + 1)))) hp2 (by omega) hG2 h12 h32 (px_st1_nr b0) (ab_sto1_find b1 (by decide) (fun _ hc => by cases hc)) (ab_sto1_find b2 (by decide) (fun _ hc => by cases hc)) (ab_sto1_find b4 (by decide) (fun _ hc => by cases hc)) (ab_sto1_find b5 (by decide) (fun _ hc => by cases hc)) (ab_sto1_find b6 (by decide) (fun _ hc => by cases hc)) (px_st1_at _ _ _)
    refine ⟨hp', ?_, y4, y5, px_fr_tr f2 y6⟩
    -- the day, put into its kind
    have segA : ∀ (r : Option Value) (h9 : px_H), px_Z nm_T none nm_P mm_M_sheet 80 lv8 [] hp r h9 → px_Z nm_T none nm_P mm_M_sheet 46 lv [] hp r h9 := by
      intro r h9 h
      refine px_q_il (len := 2) (j := 7) rfl l7 ?_
      refine px_q_aln (len := 1) (j := 0) rfl l0 ?_
      refine px_q_get (len := 3) (ci := 9) (k := nf_persons) (fs := fs) (v := .int z) rfl rfl hx hz ?_
      refine px_q_icmp (bb := false) (len := 3) (c := .ge) (off := 87) rfl (by simp only [px_cmp, decide_eq_false_iff_not, ge_iff_le, Int32.le_iff_toInt_le, ei]; omega) ?_
      refine px_q_iln (pc := 55) (len := 1) (j := 1) rfl l1 ?_
      have st8 : ∀ u : Int32, u = sh_cv k (sh_e f step p) → px_Z nm_T none nm_P mm_M_sheet 78 lv [.int u] hp r h9 := by
        intro u hu9
        subst hu9
        exact px_Z_its (pc1 := 80) (lv1 := lv8) (st1 := []) (hp1 := hp) 1 (fun _ _ _ _ => by rw [← hl8]; rfl) h
      by_cases k0 : k = 0
      · refine px_q_if (bb := false) (len := 3) (c := .ne) (off := 9) rfl (by rw [sh_ne]; simp [k0]) ?_
        refine px_q_il (pc := 59) (len := 2) (j := 5) rfl l5 ?_
        refine px_Z_its (pc1 := 78) (lv1 := lv) (st1 := [.int (sh_e f step p).toInt8.toInt32]) (hp1 := hp) 2 (fun _ _ _ _ => rfl) ?_
        exact st8 _ (by unfold sh_cv; rw [if_pos k0])
      · refine px_q_if (bb := true) (len := 3) (c := .ne) (off := 9) rfl (by rw [sh_ne]; simp [k0]) ?_
        refine px_q_iln (pc := 65) (len := 1) (j := 1) rfl l1 ?_
        refine px_Z_its (pc1 := 67) (lv1 := lv) (st1 := [.int 1, .int k]) (hp1 := hp) 1 (fun _ _ _ _ => rfl) ?_
        by_cases k1 : k = 1
        · refine px_q_icmp (bb := false) (len := 3) (c := .ne) (off := 9) rfl (by rw [sh_ne]; simp [k1]) ?_
          refine px_q_il (pc := 70) (len := 2) (j := 5) rfl l5 ?_
          refine px_Z_its (pc1 := 78) (lv1 := lv) (st1 := [.int (sh_e f step p).toInt16.toInt32]) (hp1 := hp) 2 (fun _ _ _ _ => rfl) ?_
          exact st8 _ (by unfold sh_cv; rw [if_neg k0, if_pos k1])
        · refine px_q_icmp (bb := true) (len := 3) (c := .ne) (off := 9) rfl (by rw [sh_ne]; simp [k1]) ?_
          refine px_q_il (pc := 76) (len := 2) (j := 5) rfl l5 ?_
          exact st8 _ (by unfold sh_cv; rw [if_neg k0, if_neg k1])
    -- what is noted
    have segB : ∀ (r : Option Value) (h9 : px_H), px_Z nm_T none nm_P mm_M_sheet 113 lv8 [.int (sh_t k n f step p), .int (Int32.ofNat p), .ref na_owes] hp r h9 → px_Z nm_T none nm_P mm_M_sheet 80 lv8 [] hp r h9 := by
      intro r h9 h
      refine px_q_aln (len := 1) (j := 0) rfl c0 ?_
      refine px_q_get (len := 3) (ci := 9) (k := nf_owes) (fs := fs) (v := .ref na_owes) rfl rfl hx (nm_f hG hx rfl) ?_
      refine px_q_il (len := 2) (j := 7) rfl c7 ?_
      refine px_q_iln (len := 1) (j := 1) rfl c1 ?_
      refine px_Z_its (pc1 := 88) (lv1 := lv8) (st1 := [.int 3, .int k, .int (Int32.ofNat p), .ref na_owes]) (hp1 := hp) 1 (fun _ _ _ _ => rfl) ?_
      have s97 : sh_t k n f step p = 0 → px_Z nm_T none nm_P mm_M_sheet 97 lv8 [.int (Int32.ofNat p), .ref na_owes] hp r h9 := by
        intro h0
        rw [h0] at h
        exact px_Z_its (pc1 := 113) (lv1 := lv8) (st1 := [.int 0, .int (Int32.ofNat p), .ref na_owes]) (hp1 := hp) 2 (fun _ _ _ _ => rfl) h
      by_cases k3 : k = 3
      · refine px_q_icmp (bb := true) (len := 3) (c := .eq) (off := 9) rfl (by rw [sh_eq rfl]; simp [k3]) ?_
        exact s97 (by unfold sh_t; rw [if_pos (Or.inl k3)])
      · refine px_q_icmp (bb := false) (len := 3) (c := .eq) (off := 9) rfl (by rw [sh_eq rfl]; simp [k3]) ?_
        refine px_q_il (pc := 91) (len := 2) (j := 7) rfl c7 ?_
        refine px_q_iln (len := 1) (j := 2) rfl c2 ?_
        by_cases hn : n.toInt ≤ p
        · refine px_q_icmp (bb := false) (len := 3) (c := .lt) (off := 7) rfl (by simp only [px_cmp, decide_eq_false_iff_not, Int32.lt_iff_toInt_lt, ei]; omega) ?_
          exact s97 (by unfold sh_t; rw [if_pos (Or.inr hn)])
        · refine px_q_icmp (bb := true) (len := 3) (c := .lt) (off := 7) rfl (by simp only [px_cmp, decide_eq_true_eq, Int32.lt_iff_toInt_lt, ei]; omega) ?_
          have ht : sh_t k n f step p = sh_cl (sh_cv k (sh_e f step p)) := by
            unfold sh_t
            rw [if_neg (by rintro (h | h); exact k3 h; exact hn h)]
          rw [ht] at h
          refine px_Z_its (pc1 := 105) (lv1 := lv8) (st1 := [.int sh_c9, .int 0, .int (Int32.ofNat p), .ref na_owes]) (hp1 := hp) 2 (fun _ _ _ _ => rfl) ?_
          refine px_q_il (len := 2) (j := 8) rfl c8 ?_
          refine px_q_math (len := 3) (w := 1) (st' := [.int (sh_mn (sh_cv k (sh_e f step p))), .int 0, .int (Int32.ofNat p), .ref na_owes]) rfl rfl rfl (Nat.le_of_ble_eq_true rfl) ?_
          exact px_q_math (len := 3) (w := 0) (st' := [.int (sh_cl (sh_cv k (sh_e f step p))), .int (Int32.ofNat p), .ref na_owes]) rfl rfl rfl (Nat.le_of_ble_eq_true rfl) h
    refine segA _ _ (segB _ _ ?_)
    refine px_q_iast (len := 1) rfl h3 rfl (nm_ixR _ 10 (by omega) (by omega)) ?_
    rw [hpc, hu, hh]
    refine px_q_il (pc := 114) (len := 2) (j := 6) rfl c6 ?_
    refine px_q_aln (len := 1) (j := 0) rfl c0 ?_
    refine px_q_get (len := 3) (ci := 9) (k := nf_owes) (fs := fs) (v := .ref na_owes) rfl rfl hx2 (nm_f hG2 hx2 rfl) ?_
    refine px_q_il (len := 2) (j := 7) rfl c7 ?_
    refine px_q_iald (len := 1) rfl h32 rfl (nm_ixR _ 10 (by omega) (by omega)) ?_
    rw [hpc, if_pos (by omega)]
    refine px_Z_its (pc1 := 126) (lv1 := lvA) (st1 := []) (hp1 := hp2) 2 (fun _ _ _ _ => by rw [← hlA]; rfl) ?_
    refine px_q_il (len := 2) (j := 5) rfl a5 ?_
    refine px_q_il (len := 2) (j := 4) rfl a4 ?_
    refine px_Z_its (pc1 := 133) (lv1 := lvB) (st1 := []) (hp1 := hp2) 2 (fun _ _ _ _ => by rw [← hlB]; rfl) ?_
    refine px_q_iinc (len := 3) (j := 7) (n := 1) rfl b7 rfl ?_
    rw [e1]
    exact px_Z_its (pc1 := 46) (lv1 := px_st1 lvB 7 (.int (Int32.ofNat (p + 1)))) (st1 := []) (hp1 := hp2) 1 (fun _ _ _ _ => rfl) y3
/-! sheet, on both sides -/
abbrev sh_lo : Int := -2147483648
abbrev sh_hi : Int := 2147483647
def sh_fs (c : Nat) (k1 k2 n1 n2 : Int) : List ab_F := [(2, 0, 0, [c]), (0, k1, k2, []), (0, n1, n2, []), (0, sh_lo, sh_hi, []), (0, sh_lo, sh_hi, [])]
theorem sh_av {c : Nat} {a1 a2 a3 a4 : Int32} {k1 k2 n1 n2 : Int} (h1 : k1 ≤ a1.toInt) (h2 : a1.toInt ≤ k2) (h3 : n1 ≤ a2.toInt) (h4 : a2.toInt ≤ n2) : ac_argv (sh_fs c k1 k2 n1 n2) [.ref c, .int a1, .int a2, .int a3, .int a4] := ⟨⟨rfl, List.mem_cons_self⟩, ⟨rfl, h1, h2⟩, ⟨rfl, h3, h4⟩, ⟨rfl, ab_i32 _⟩, ⟨rfl, ab_i32 _⟩, trivial⟩
def sh_bad (t k1 k2 n1 n2 : Int) : Bool := ex_rts t (ex_run [] [] [] [] mi_X_sheet (sh_fs 0 k1 k2 n1 n2) []) && ex_rts t (ex_run [] [] [(69, 0)] [] mi_M_sheet (sh_fs 69 k1 k2 n1 n2) [])
set_option maxRecDepth 1000000 in
theorem sh_bad_t : (sh_bad (-1) sh_lo (-1) sh_lo sh_hi && (sh_bad (-1) 4 sh_hi sh_lo sh_hi && (sh_bad (-1) sh_lo sh_hi 11 sh_hi && sh_bad (-2) 0 2 sh_lo (-1)))) = true := by decide +kernel
theorem sh_bad_ok {t k1 k2 n1 n2 : Int} (h : sh_bad t k1 k2 n1 n2 = true) {hp : px_H} {a1 a2 a3 a4 : Int32} (hG : ab_h nm_GH hp) (hR : sd_R hp) (h1 : k1 ≤ a1.toInt) (h2 : a1.toInt ≤ k2) (h3 : n1 ≤ a2.toInt) (h4 : a2.toInt ≤ n2) : sd_twoR mi_X_sheet mi_M_sheet true 0 69 [.int a1, .int a2, .int a3, .int a4] hp := by
  simp only [sh_bad, Bool.and_eq_true] at h
  obtain ⟨v, hp1, q, m1, m2, m3, m4⟩ := ex_rts_ok di_no h.1 hG (sh_av (a3 := a3) (a4 := a4) h1 h2 h3 h4) (fun q hq => (by cases hq))
  obtain ⟨v', hp2, q', n1, n2, n3, n4⟩ := ex_rts_ok di_no h.2 m3.2.1 (sh_av (a3 := a3) (a4 := a4) h1 h2 h3 h4) (fun q hq => (by cases hq))
  exact ⟨v, v', hp1, hp2, m1, m3.2.1, n1, n3.2.1, fun _ => by rw [← Int32.toInt_inj, m2, n2], sd_R_fr n4 (by decide) (sd_R_fr m4 (by decide) hR)⟩
def sh_BX (k1 k2 n1 n2 : Int) : ac_S := ([(0, ((2, 0, 0, [0]), none)), (1, ((0, k1, k2, []), some (2, 1, 0))), (2, ((0, n1, n2, []), some (2, 2, 0))), (3, ((0, sh_lo, sh_hi, []), some (2, 3, 0))), (4, ((0, sh_lo, sh_hi, []), some (2, 4, 0)))], [((2, 0, 0, [1]), none)], [], [], [], [])
def sh_BM (k1 k2 n1 n2 : Int) : ac_S := ([(0, ((2, 0, 0, [69]), none)), (1, ((0, k1, k2, []), some (2, 1, 0))), (2, ((0, n1, n2, []), some (2, 2, 0))), (4, ((0, sh_lo, sh_hi, []), some (2, 4, 0))), (5, ((0, sh_lo, sh_hi, []), some (2, 3, 0))), (6, ((0, 0, 0, []), none)), (7, ((0, 0, 0, []), none))], [], [], [], [], [])
def sh_eX (k1 k2 n1 n2 : Int) (pc : Nat) : Bool := match ex_runS [] [] [] [] mi_X_sheet mm_X_sheet (sh_fs 0 k1 k2 n1 n2) [] [pc] with
  | some o => o.1.isEmpty && o.2.all (fun q => Nat.beq q.1 pc && ac_le nm_GH none q.2 (sh_BX k1 k2 n1 n2))
  | none => false
def sh_eM (k1 k2 n1 n2 : Int) : Bool := match ex_runS [] [] [(69, 0)] [] mi_M_sheet mm_M_sheet (sh_fs 69 k1 k2 n1 n2) [] [46] with
  | some o => o.1.isEmpty && o.2.all (fun q => Nat.beq q.1 46 && ac_le nm_GH none q.2 (sh_BM k1 k2 n1 n2))
  | none => false
set_option maxRecDepth 1000000 in
theorem sh_e_t : (sh_eX 3 3 sh_lo 10 26 && (sh_eX 0 2 0 10 43 && (sh_eM 3 3 sh_lo 10 && sh_eM 0 2 0 10))) = true := by decide +kernel
/-- the class, up to where it clears -/
theorem sh_toX {k1 k2 n1 n2 : Int} {pc : Nat} (t : sh_eX k1 k2 n1 n2 pc = true) {hp : px_H} {a1 a2 a3 a4 : Int32} (hG : ab_h nm_GH hp) (h1 : k1 ≤ a1.toInt) (h2 : a1.toInt ≤ k2) (h3 : n1 ≤ a2.toInt) (h4 : a2.toInt ≤ n2) : ∃ (lv : List (Nat × Value)) (hp1 : px_H), ab_h nm_GH hp1 ∧ px_fr [] [] hp hp1 ∧ px_find 0 lv = some (.ref 0) ∧ px_find 1 lv = some (.int a1) ∧ px_find 2 lv = some (.int a2) ∧ px_find 3 lv = some (.int a3) ∧ px_find 4 lv = some (.int a4) ∧
    ∀ (r : Option Value) (h9 : px_H), px_Z nm_T none nm_P mm_X_sheet pc lv [.ref 1] hp1 r h9 → px_C nm_T nm_P mi_X_sheet [.ref 0, .int a1, .int a2, .int a3, .int a4] hp r h9 := by
  unfold sh_eX at t
  split at t
  rotate_left
  · cases t
  rename_i o ho
  simp only [Bool.and_eq_true, List.all_eq_true, List.isEmpty_iff] at t
  rcases ex_runS_ok di_no rfl (by show _ ≤ _; exact Nat.le_of_ble_eq_true rfl) ho hG (sh_av (a3 := a3) (a4 := a4) h1 h2 h3 h4) (fun q hq => (by cases hq)) with ⟨r, hp', q, m1, -⟩ | ⟨pc', lv, st, hp1, A', m1, m2, m3, m4⟩
  · rw [t.1] at m1
    cases m1
  obtain ⟨q1, q2⟩ := t.2 _ m1
  have q1 := Nat.eq_of_beq_eq_true q1
  simp only at q1
  subst q1
  obtain ⟨γ2, -, h9, -⟩ := ac_le_ok q2 m2
  obtain ⟨b1, b2, b3, b4, -⟩ := h9
  obtain ⟨u0, l0, o0⟩ := b1 0 _ (List.mem_cons_self)
  obtain ⟨u1, l1, o1⟩ := b1 1 _ (List.mem_cons_of_mem _ List.mem_cons_self)
  obtain ⟨u2, l2, o2⟩ := b1 2 _ (List.mem_cons_of_mem _ (List.mem_cons_of_mem _ List.mem_cons_self))
  obtain ⟨u3, l3, o3⟩ := b1 3 _ (List.mem_cons_of_mem _ (List.mem_cons_of_mem _ (List.mem_cons_of_mem _ List.mem_cons_self)))
  obtain ⟨u4, l4, o4⟩ := b1 4 _ (List.mem_cons_of_mem _ (List.mem_cons_of_mem _ (List.mem_cons_of_mem _ (List.mem_cons_of_mem _ List.mem_cons_self))))
  obtain ⟨c0, rfl, e0⟩ := ab_f2 o0.1
  cases List.mem_singleton.mp e0
  obtain ⟨rfl, -, -⟩ := ex_org o1
  obtain ⟨rfl, -, -⟩ := ex_org o2
  obtain ⟨rfl, -, -⟩ := ex_org o3
  obtain ⟨rfl, -, -⟩ := ex_org o4
  refine ⟨lv, hp1, b3, m3, l0, l1, l2, l3, l4, fun r h9 hz => m4 _ _ ?_⟩
  match st, b2 with
  | [w1], ⟨t1, _⟩ =>
    obtain ⟨c1, rfl, ec⟩ := ab_f2 t1.1
    cases List.mem_singleton.mp ec
    exact hz
theorem sh_runM {k1 k2 n1 n2 : Int} (t : sh_eM k1 k2 n1 n2 = true) {hp : px_H} {a1 a2 a3 a4 z : Int32} {g : Nat → Int32} (hG : ab_h nm_GH hp) (h1 : k1 ≤ a1.toInt) (h2 : a1.toInt ≤ k2) (h3 : n1 ≤ a2.toInt) (h4 : a2.toInt ≤ n2) (hz : ac_fv hp 69 3 = some (.int z)) (hg : hp[na_owes]? = some (.inl (nr_owes, 10, .inl g))) (z0 : 0 ≤ z.toInt) (z9 : z.toInt ≤ 10) : ∃ hp' : px_H, px_C nm_T nm_P mi_M_sheet [.ref 69, .int a1, .int a2, .int a3, .int a4] hp (some (.int (if a1 = 3 then Int32.ofInt (-3) else sh_s a1 a2 a3 a4 z.toInt.toNat))) hp' ∧ ab_h nm_GH hp' ∧ hp'[na_owes]? = some (.inl (nr_owes, 10, .inl (fun i => if i < z.toInt.toNat then sh_t a1 a2 a3 a4 i else g i))) ∧ px_fr [(69, 0)] [na_owes] hp hp' := by
  unfold sh_eM at t
  split at t
  rotate_left
  · cases t
  rename_i o ho
  simp only [Bool.and_eq_true, List.all_eq_true, List.isEmpty_iff] at t
  rcases ex_runS_ok di_no rfl (by show _ ≤ _; exact Nat.le_of_ble_eq_true rfl) ho hG (sh_av (a3 := a3) (a4 := a4) h1 h2 h3 h4) (fun q hq => (by cases hq)) with ⟨r, hp', q, m1, -⟩ | ⟨pc', lv, st, hp1, A', m1, m2, m3, m4⟩
  · rw [t.1] at m1
    cases m1
  obtain ⟨q1, q2⟩ := t.2 _ m1
  have q1 := Nat.eq_of_beq_eq_true q1
  simp only at q1
  subst q1
  obtain ⟨γ2, -, h9, -⟩ := ac_le_ok q2 m2
  obtain ⟨b1, b2, b3, b4, -⟩ := h9
  have mem : ∀ {a b c d e f g : Nat × ab_V}, a ∈ [a, b, c, d, e, f, g] ∧ b ∈ [a, b, c, d, e, f, g] ∧ c ∈ [a, b, c, d, e, f, g] ∧ d ∈ [a, b, c, d, e, f, g] ∧ e ∈ [a, b, c, d, e, f, g] ∧ f ∈ [a, b, c, d, e, f, g] ∧ g ∈ [a, b, c, d, e, f, g] := by simp
  obtain ⟨u0, l0, o0⟩ := b1 0 _ mem.1
  obtain ⟨u1, l1, o1⟩ := b1 1 _ mem.2.1
  obtain ⟨u2, l2, o2⟩ := b1 2 _ mem.2.2.1
  obtain ⟨u4, l4, o4⟩ := b1 4 _ mem.2.2.2.1
  obtain ⟨u5, l5, o5⟩ := b1 5 _ mem.2.2.2.2.1
  obtain ⟨u6, l6, o6⟩ := b1 6 _ mem.2.2.2.2.2.1
  obtain ⟨u7, l7, o7⟩ := b1 7 _ mem.2.2.2.2.2.2
  obtain ⟨c0, rfl, e0⟩ := ab_f2 o0.1
  cases List.mem_singleton.mp e0
  obtain ⟨rfl, -, -⟩ := ex_org o1
  obtain ⟨rfl, -, -⟩ := ex_org o2
  obtain ⟨rfl, -, -⟩ := ex_org o4
  obtain ⟨rfl, -, -⟩ := ex_org o5
  obtain ⟨x6, rfl, h6⟩ := ab_f0 o6.1
  obtain ⟨x7, rfl, h7⟩ := ab_f0 o7.1
  have zero : ∀ {x : Int32}, ab_in (0, 0) x.toInt → x = 0 := by
    intro x hx
    have : (0 : Int) ≤ x.toInt := hx.1
    have : x.toInt ≤ (0 : Int) := hx.2
    rw [← Int32.toInt_inj, Int32.toInt_zero]
    omega
  have h6 := zero h6
  have h7 := zero h7
  subst h6 h7
  have est : st = [] := by
    cases st with
    | nil => rfl
    | cons v s => exact absurd b2 (by simp [sh_BM, ab_st])
  subst est
  obtain ⟨hp', y1, y2, y3, y4⟩ := sh_M (k := a1) (n := a2) (f := a3) (step := a4) (g := g) z0 z9 z.toInt.toNat 0 lv hp1 (by omega) b3 (ex_fv_fr m3 (by decide) hz) (by rw [m3.1 _ _ (by decide) hg]; simp) l0 l1 l2 l4 l5 l6 l7
  exact ⟨hp', m4 _ _ y1, y2, y3, px_fr_tr (px_fr_mono m3 (by decide) (fun q hq => (by cases hq))) (px_fr_mono y4 (fun q hq => (by cases hq)) (by decide))⟩
theorem sh_s_ext {k n f step : Int32} {q : Nat} : ∀ m : Nat, (∀ i, q ≤ i → i < q + m → sh_t k n f step i = 0) → sh_s k n f step (q + m) = sh_s k n f step q
  | 0, _ => rfl
  | m + 1, h => by
    show sh_s k n f step (q + m) + sh_t k n f step (q + m) = _
    rw [h (q + m) (by omega) (by omega), Int32.add_zero]
    exact sh_s_ext m (fun i h1 h2 => h i h1 (by omega))
theorem sd_sheet {hp : px_H} {a1 a2 a3 a4 : Int32} (hG : ab_h nm_GH hp) (hR : sd_R hp) : sd_twoR mi_X_sheet mi_M_sheet true 0 69 [.int a1, .int a2, .int a3, .int a4] hp := by
  have hR0 := hR
  obtain ⟨z, f, g, h1, h2, h3, h4, h5⟩ := hR
  obtain ⟨z0, z9⟩ := di_bd hG h1
  have T := sh_bad_t
  simp only [Bool.and_eq_true] at T
  obtain ⟨T1, T2, T3, T4⟩ := T
  have E := sh_e_t
  simp only [Bool.and_eq_true] at E
  obtain ⟨E1, E2, E3, E4⟩ := E
  have i1 := ab_i32 a1
  have i2 := ab_i32 a2
  have j1 : (-2147483648 : Int) ≤ a1.toInt := i1.1
  have j2 : a1.toInt ≤ 2147483647 := i1.2
  have j3 : (-2147483648 : Int) ≤ a2.toInt := i2.1
  have j4 : a2.toInt ≤ 2147483647 := i2.2
  by_cases c1 : a1.toInt < 0
  · exact sh_bad_ok T1 hG hR0 j1 (by omega) j3 j4
  by_cases c2 : 3 < a1.toInt
  · exact sh_bad_ok T2 hG hR0 (by omega) j2 j3 j4
  by_cases c3 : 10 < a2.toInt
  · exact sh_bad_ok T3 hG hR0 j1 j2 (by omega) j4
  have three : a1 = 3 ↔ a1.toInt = 3 := by
    rw [← Int32.toInt_inj, show (3 : Int32).toInt = 3 from rfl]
  by_cases c4 : a1.toInt = 3
  · obtain ⟨lv, hp1, g1, f1, -, -, -, -, -, hX⟩ := sh_toX E1 (a1 := a1) (a2 := a2) (a3 := a3) (a4 := a4) hG (by omega) (by omega) j3 (by omega)
    obtain ⟨hp2, y1, y2, y3, y4⟩ := sh_clear g1 (ex_fv_fr f1 (by decide) h1) (f1.1 _ _ (by decide) h3) z0 z9
    obtain ⟨fs1, hx1, -, -⟩ := ac_obj g1 (c := 1) rfl
    have f2 : px_fr [] [3] hp hp2 := px_fr_tr (px_fr_mono f1 (fun q hq => (by cases hq)) (fun q hq => (by cases hq))) y4
    have cX : px_C nm_T nm_P mi_X_sheet [.ref 0, .int a1, .int a2, .int a3, .int a4] hp (some (.int (Int32.ofInt (-3)))) hp2 := by
      refine hX _ _ ?_
      refine px_q_virt (len := 3) (n := 0) (a := 1) (N := mm_Town_clearDebts) (mi := mi_Town_clearDebts) (ci := 6) rfl rfl rfl hx1 rfl (Nat.le_of_ble_eq_true rfl) (Nat.le_of_ble_eq_true rfl) rfl rfl y1 ?_
      refine px_Z_its (pc1 := 31) (lv1 := lv) (st1 := [.int (Int32.ofInt (-3))]) (hp1 := hp2) 1 (fun _ _ _ _ => rfl) ?_
      exact px_q_iret (len := 1) (ty := .int) rfl rfl rfl
    obtain ⟨hp3, w1, w2, w3, w4⟩ := sh_runM E3 (a1 := a1) (a2 := a2) (a3 := a3) (a4 := a4) (z := z) (g := g) y2 (by omega) (by omega) j3 (by omega) (ex_fv_fr f2 (by decide) h2) (f2.1 _ _ (by decide) h4) z0 z9
    rw [if_pos (three.mpr c4)] at w1
    refine ⟨_, _, hp2, hp3, cX, y2, w1, w2, fun _ => rfl, z, _, _, ex_fv_fr w4 (by decide) (ex_fv_fr f2 (by decide) h1), ex_fv_fr w4 (by decide) (ex_fv_fr f2 (by decide) h2), w4.1 _ _ (by decide) y3, w3, fun i hi => ?_⟩
    have := h5 i hi
    by_cases hz : i < z.toInt.toNat
    · rw [if_pos hz, if_pos hz]
      refine ⟨?_, fun _ => rfl⟩
      unfold sh_t
      rw [if_pos (Or.inl (three.mpr c4))]
    · rw [if_neg hz, if_neg hz]
      exact this
  by_cases c5 : a2.toInt < 0
  · exact sh_bad_ok T4 hG hR0 (by omega) (by omega) j3 (by omega)
  have k3 : ¬ a1 = 3 := fun h => c4 (three.mp h)
  obtain ⟨lv, hp1, g1, f1, l0, l1, l2, l3, l4, hX⟩ := sh_toX E2 (a1 := a1) (a2 := a2) (a3 := a3) (a4 := a4) hG (by omega) (by omega) (by omega) (by omega)
  obtain ⟨hp2, y1, y2, y3, y4⟩ := sh_clear g1 (ex_fv_fr f1 (by decide) h1) (f1.1 _ _ (by decide) h3) z0 z9
  obtain ⟨fs1, hx1, -, -⟩ := ac_obj g1 (c := 1) rfl
  have f2 : px_fr [] [3] hp hp2 := px_fr_tr (px_fr_mono f1 (fun q hq => (by cases hq)) (fun q hq => (by cases hq))) y4
  obtain ⟨hp3, q, q0, q1, q2, q3, q4, q5, q6⟩ := sh_X (k := a1) (n := a2) (f := a3) (step := a4) (z := z) (g := fun i => if i < z.toInt.toNat then 0 else f i) z0 z9 (by omega) (by omega) k3 z.toInt.toNat 0 (px_st1 (px_st1 (px_st1 lv 5 (.int 0)) 6 (.int a3)) 7 (.int (Int32.ofNat 0))) hp2 (by omega) (by omega) y2 (ex_fv_fr f2 (by decide) h1) (by rw [y3]; simp)
    (px_st1_nr (px_st1_nr (px_st1_nr l0))) (ab_sto1_find (ab_sto1_find (ab_sto1_find l1 (by decide) (fun _ hc => by cases hc)) (by decide) (fun _ hc => by cases hc)) (by decide) (fun _ hc => by cases hc)) (ab_sto1_find (ab_sto1_find (ab_sto1_find l2 (by decide) (fun _ hc => by cases hc)) (by decide) (fun _ hc => by cases hc)) (by decide) (fun _ hc => by cases hc)) (ab_sto1_find (ab_sto1_find (ab_sto1_find l4 (by decide) (fun _ hc => by cases hc)) (by decide) (fun _ hc => by cases hc)) (by decide) (fun _ hc => by cases hc)) (ab_sto1_find (ab_sto1_find (px_st1_at _ _ _) (by decide) (fun _ hc => by cases hc)) (by decide) (fun _ hc => by cases hc)) (ab_sto1_find (px_st1_at _ _ _) (by decide) (fun _ hc => by cases hc)) (px_st1_at _ _ _)
  have f3 : px_fr [] [3] hp hp3 := px_fr_tr f2 q6
  have cX : px_C nm_T nm_P mi_X_sheet [.ref 0, .int a1, .int a2, .int a3, .int a4] hp (some (.int (sh_s a1 a2 a3 a4 q))) hp3 := by
    refine hX _ _ ?_
    refine px_q_virt (len := 3) (n := 0) (a := 1) (N := mm_Town_clearDebts) (mi := mi_Town_clearDebts) (ci := 6) rfl rfl rfl hx1 rfl (Nat.le_of_ble_eq_true rfl) (Nat.le_of_ble_eq_true rfl) rfl rfl y1 ?_
    refine px_Z_its (pc1 := 49) (lv1 := px_st1 lv 5 (.int 0)) (st1 := []) (hp1 := hp2) 2 (fun _ _ _ _ => rfl) ?_
    refine px_q_iln (len := 1) (j := 3) rfl (ab_sto1_find l3 (by decide) (fun _ hc => by cases hc)) ?_
    exact px_Z_its (pc1 := 55) (lv1 := px_st1 (px_st1 (px_st1 lv 5 (.int 0)) 6 (.int a3)) 7 (.int (Int32.ofNat 0))) (st1 := []) (hp1 := hp2) 3 (fun _ _ _ _ => rfl) q3
  obtain ⟨hp4, w1, w2, w3, w4⟩ := sh_runM E4 (a1 := a1) (a2 := a2) (a3 := a3) (a4 := a4) (z := z) (g := g) q4 (by omega) (by omega) (by omega) (by omega) (ex_fv_fr f3 (by decide) h2) (f3.1 _ _ (by decide) h4) z0 z9
  rw [if_neg k3] at w1
  have hzero : ∀ i : Nat, q ≤ i → i < z.toInt.toNat → sh_t a1 a2 a3 a4 i = 0 := by
    intro i e1 e2
    unfold sh_t
    rw [if_pos (Or.inr (by omega))]
  have hsum : sh_s a1 a2 a3 a4 z.toInt.toNat = sh_s a1 a2 a3 a4 q := by
    have := sh_s_ext (k := a1) (n := a2) (f := a3) (step := a4) (q := q) (z.toInt.toNat - q) (fun i e1 e2 => hzero i e1 (by omega))
    rwa [show q + (z.toInt.toNat - q) = z.toInt.toNat from by omega] at this
  refine ⟨_, _, hp3, hp4, cX, q4, w1, w2, fun _ => hsum.symm, z, _, _, ex_fv_fr w4 (by decide) (ex_fv_fr f3 (by decide) h1), ex_fv_fr w4 (by decide) (ex_fv_fr f3 (by decide) h2), w4.1 _ _ (by decide) q5, w3, fun i hi => ?_⟩
  have := h5 i hi
  by_cases hz : i < z.toInt.toNat
  · rw [if_pos hz, if_pos hz]
    by_cases hq : i < q
    · rw [if_pos hq]
      exact ⟨rfl, fun h => by omega⟩
    · rw [if_neg hq, hzero i (by omega) hz]
      exact ⟨rfl, fun _ => rfl⟩
  · rw [if_neg hz, if_neg hz, if_neg (by omega)]
    exact this
