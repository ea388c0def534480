/-! questions that leave the chest as it was: printed by drv.py -r -/
abbrev rl1_M_reachesNow : rs_L := ([(0, ((2, 0, 0, [69]), none)), (1, ((0, 0, 5, []), some (2, 1, 0)))], [((-2147483648), 2147483647), (0, 5)])
abbrev rl2_M_reachesNow : rs_L := ([(0, ((2, 0, 0, [69]), none)), (1, ((0, 0, 5, []), some (2, 1, 0))), (2, ((0, 0, 1, []), none))], [((-2147483648), 2147483647), (0, 5)])
set_option maxRecDepth 1000000 in
theorem rt_M_reachesNow : (rs_e1 [] [] [] [] mi_M_reachesNow mm_M_reachesNow kc_M_reachesNow_0.2.1 kc_M_reachesNow_0.2.2.2.1 1 rl1_M_reachesNow && (rs_e2 [kc_M_reaches_0] [] [(69, 31), (69, 32), (69, 33), (69, 45), (69, 46)] [88, 89, 90, 93, 94, 95, 96, 97] mi_M_reachesNow mm_M_reachesNow 4 11 rl1_M_reachesNow rl2_M_reachesNow && rs_e3 [] [] [] [] mi_M_reachesNow mm_M_reachesNow kc_M_reachesNow_0.2.1 kc_M_reachesNow_0.2.2.2.1 14 rl2_M_reachesNow)) = true := by decide +kernel
theorem kp_M_reachesNow_0 : nm_ok kc_M_reachesNow_0 := rs_ok (i1 := 243) (i2 := 251) (fun _ h => absurd h List.not_mem_nil) (List.forall_mem_cons.mpr ⟨kp_M_reaches_0, fun _ h => absurd h List.not_mem_nil⟩) (fun _ h => absurd h List.not_mem_nil) rfl (Nat.le_of_ble_eq_true rfl) rfl rfl rfl rfl (Bool.and_eq_true_iff.mp rt_M_reachesNow).1 (Bool.and_eq_true_iff.mp (Bool.and_eq_true_iff.mp rt_M_reachesNow).2).1 (Bool.and_eq_true_iff.mp (Bool.and_eq_true_iff.mp rt_M_reachesNow).2).2 rfl rfl rfl (by decide +kernel)
abbrev rl1_M_notes : rs_L := ([(0, ((2, 0, 0, [69]), none)), (1, ((0, 0, 5, []), some (2, 1, 0)))], [((-2147483648), 2147483647), (0, 5)])
abbrev rl2_M_notes : rs_L := ([(0, ((2, 0, 0, [69]), none)), (1, ((0, 0, 5, []), some (2, 1, 0))), (2, ((0, 0, 3000, []), none))], [((-2147483648), 2147483647), (0, 5)])
set_option maxRecDepth 1000000 in
theorem rt_M_notes : (rs_e1 [] [] [] [] mi_M_notes mm_M_notes kc_M_notes_0.2.1 kc_M_notes_0.2.2.2.1 1 rl1_M_notes && (rs_e2 [kc_M_satAt_0] [kl_M_notes_6] [(69, 32), (69, 33)] [88, 89, 90, 98] mi_M_notes mm_M_notes 4 35 rl1_M_notes rl2_M_notes && rs_e3 [] [] [] [] mi_M_notes mm_M_notes kc_M_notes_0.2.1 kc_M_notes_0.2.2.2.1 38 rl2_M_notes)) = true := by decide +kernel
theorem kp_M_notes_0 : nm_ok kc_M_notes_0 := rs_ok (i1 := 243) (i2 := 251) (fun _ h => absurd h List.not_mem_nil) (List.forall_mem_cons.mpr ⟨kp_M_satAt_0, fun _ h => absurd h List.not_mem_nil⟩) (fun _ h => absurd h List.not_mem_nil) rfl (Nat.le_of_ble_eq_true rfl) rfl rfl rfl rfl (Bool.and_eq_true_iff.mp rt_M_notes).1 (Bool.and_eq_true_iff.mp (Bool.and_eq_true_iff.mp rt_M_notes).2).1 (Bool.and_eq_true_iff.mp (Bool.and_eq_true_iff.mp rt_M_notes).2).2 rfl rfl rfl (by decide +kernel)
abbrev rl1_M_ever : rs_L := ([(0, ((2, 0, 0, [69]), none)), (1, ((0, (-2147483648), 2147483647, []), some (2, 1, 0))), (2, ((0, 0, 5, []), none))], [((-2147483648), 2147483647), (0, 9)])
abbrev rl2_M_ever : rs_L := ([(0, ((2, 0, 0, [69]), none)), (1, ((0, (-2147483648), 2147483647, []), some (2, 1, 0))), (2, ((0, 0, 5, []), none)), (3, ((1, (-9223372036854775808), 9223372036854775807, []), none)), (5, ((0, 0, 3000, []), none))], [((-2147483648), 2147483647), (0, 9)])
set_option maxRecDepth 1000000 in
theorem rt_M_ever : (rs_e1 [kc_M_reachesNow_0] [] [(69, 0), (69, 34), (69, 35), (69, 36), (69, 45), (69, 46)] [93, 94, 95, 96, 97] mi_M_ever mm_M_ever kc_M_ever_0.2.1 kc_M_ever_0.2.2.2.1 48 rl1_M_ever && (rs_e2 [kc_M_unpacks_0] [kl_M_ever_56] [(69, 32), (69, 33)] [88, 89, 90] mi_M_ever mm_M_ever 51 104 rl1_M_ever rl2_M_ever && rs_e3 [] [] [(69, 1)] [70] mi_M_ever mm_M_ever kc_M_ever_0.2.1 kc_M_ever_0.2.2.2.1 107 rl2_M_ever)) = true := by decide +kernel
theorem kp_M_ever_0 : nm_ok kc_M_ever_0 := rs_ok (i1 := 243) (i2 := 251) (List.forall_mem_cons.mpr ⟨kp_M_reachesNow_0, fun _ h => absurd h List.not_mem_nil⟩) (List.forall_mem_cons.mpr ⟨kp_M_unpacks_0, fun _ h => absurd h List.not_mem_nil⟩) (fun _ h => absurd h List.not_mem_nil) rfl (Nat.le_of_ble_eq_true rfl) rfl rfl rfl rfl (Bool.and_eq_true_iff.mp rt_M_ever).1 (Bool.and_eq_true_iff.mp (Bool.and_eq_true_iff.mp rt_M_ever).2).1 (Bool.and_eq_true_iff.mp (Bool.and_eq_true_iff.mp rt_M_ever).2).2 rfl rfl rfl (by decide +kernel)
def kv_M_tries_0 : ac_K := (mi_M_tries, [(2, 0, 0, [69]), (0, 0, 1, []), (0, 0, 1023, []), (0, 0, 5, [])], [], [(some (0, 0, 1, []), [], [])], [(69, 34), (69, 35), (69, 36), (69, 45), (69, 46), (69, 48)], [76, 93, 94, 95, 96, 97, 98])
def kt_M_tries_0 : ac_K := (mi_M_tries, [(2, 0, 0, [69]), (0, 0, 1, []), (0, 0, 1023, []), (0, 0, 5, [])], [], [(some (0, 0, 1, []), [], [])], [(69, 31), (69, 32), (69, 33), (69, 34), (69, 35), (69, 36), (69, 45), (69, 46), (69, 48)], [88, 89, 90, 93, 94, 95, 96, 97, 98])
abbrev rl1_M_tries : rs_L := ([(0, ((2, 0, 0, [69]), none)), (1, ((0, 0, 1, []), some (2, 1, 0))), (2, ((0, 0, 1023, []), some (2, 2, 0))), (3, ((0, 0, 5, []), some (2, 3, 0)))], [((-2147483648), 2147483647), (0, 1), (0, 1023), (0, 5)])
abbrev rl2_M_tries : rs_L := ([(0, ((2, 0, 0, [69]), none)), (1, ((0, 0, 1, []), some (2, 1, 0))), (2, ((0, 0, 1023, []), some (2, 2, 0))), (3, ((0, 0, 5, []), some (2, 3, 0))), (4, ((0, 0, 1, []), none))], [((-2147483648), 2147483647), (0, 1), (0, 1023), (0, 5)])
set_option maxRecDepth 1000000 in
theorem rt_M_tries : (rs_e1 [] [] [] [] mi_M_tries mm_M_tries kv_M_tries_0.2.1 kv_M_tries_0.2.2.2.1 1 rl1_M_tries && (rs_e2 [kc_M_isAsBefore_0, kc_M_reaches_0] [] [(69, 31), (69, 32), (69, 33), (69, 45), (69, 46), (69, 48)] [76, 88, 89, 90, 93, 94, 95, 96, 97] mi_M_tries mm_M_tries 4 43 rl1_M_tries rl2_M_tries && rs_e3 [kc_M_notes_0] [] [(69, 34), (69, 35), (69, 36)] [98] mi_M_tries mm_M_tries kv_M_tries_0.2.1 kv_M_tries_0.2.2.2.1 46 rl2_M_tries)) = true := by decide +kernel
theorem kw_M_tries_0 : nm_ok kv_M_tries_0 := rs_ok (i1 := 243) (i2 := 251) (fun _ h => absurd h List.not_mem_nil) (List.forall_mem_cons.mpr ⟨kp_M_isAsBefore_0, List.forall_mem_cons.mpr ⟨kp_M_reaches_0, fun _ h => absurd h List.not_mem_nil⟩⟩) (List.forall_mem_cons.mpr ⟨kp_M_notes_0, fun _ h => absurd h List.not_mem_nil⟩) rfl (Nat.le_of_ble_eq_true rfl) rfl rfl rfl rfl (Bool.and_eq_true_iff.mp rt_M_tries).1 (Bool.and_eq_true_iff.mp (Bool.and_eq_true_iff.mp rt_M_tries).2).1 (Bool.and_eq_true_iff.mp (Bool.and_eq_true_iff.mp rt_M_tries).2).2 rfl rfl rfl (by decide +kernel)
abbrev tr_fs : List ab_F := kt_M_tries_0.2.1
def tr_B10 : ac_S := ([(0, ((2, 0, 0, [69]), none)), (1, ((0, 0, 1, []), some (2, 1, 0))), (2, ((0, 0, 1023, []), some (2, 2, 0))), (3, ((0, 0, 5, []), some (2, 3, 0)))], [((0, 0, 1, []), some (2, 1, 0)), ((2, 0, 0, [76]), none), ((2, 0, 0, [69]), none)], [], [], [], [])
def tr_e10 : Bool := match ex_runS [kc_M_remembers_0] [] [(69, 34), (69, 35), (69, 36)] [] mi_M_tries mm_M_tries tr_fs [] [10] with
  | some o => o.1.isEmpty && o.2.all (fun q => Nat.beq q.1 10 && ac_le nm_GH none q.2 tr_B10)
  | none => false
def tr_A21 : ac_S := (tr_B10.1, [], [], [], [], [])
def tr_BS : ac_S := ([(0, ((2, 0, 0, [69]), none)), (3, ((0, 0, 5, []), none)), (4, ((0, 0, 1, []), none))], [((0, 0, 1023, []), some (1, 69, 48)), ((0, 0, 1, []), some (2, 1, 0)), ((2, 0, 0, [76]), none)], [], [], [], [])
abbrev tr_w1 : List (Nat × Nat) := [(69, 31), (69, 32), (69, 33), (69, 45), (69, 46)]
abbrev tr_a1 : List Nat := [88, 89, 90, 93, 94, 95, 96, 97]
def tr_e21 : Bool := match ac_run nm_T nm_P nm_GH nm_FA [kc_M_isAsBefore_0, kc_M_reaches_0] [] tr_w1 tr_a1 20000 false [41] mi_M_tries mm_M_tries 21 tr_A21 with
  | some o => o.1.isEmpty && o.2.all (fun q => Nat.beq q.1 41 && ac_le nm_GH none q.2 tr_BS)
  | none => false
def tr_AS : ac_S := (tr_BS.1, [], [], [], [], [])
abbrev tr_w2 : List (Nat × Nat) := [(69, 31), (69, 32), (69, 33), (69, 34), (69, 35), (69, 36)]
abbrev tr_a2 : List Nat := [88, 89, 90, 98]
def tr_eS : Bool := match ac_run nm_T nm_P nm_GH nm_FA [kc_M_comesBack_0, kc_M_notes_0] [] tr_w2 tr_a2 20000 false [] mi_M_tries mm_M_tries 42 tr_AS with
  | some (os, []) => os.all (fun o => match o.1 with | some a => ab_le a.1 (0, 0, 1, []) | none => false)
  | _ => false
set_option maxRecDepth 1000000 in
theorem tr_t : (tr_e10 && (tr_e21 && tr_eS)) = true := by decide +kernel
set_option maxHeartbeats 4000000 in
theorem ku_M_tries_0 : nm_ok kt_M_tries_0 := by
  intro av hp hG hgs hfl
  have t := tr_t
  simp only [Bool.and_eq_true] at t
  obtain ⟨t1, t2, t3⟩ := t
  unfold tr_e10 at t1
  split at t1
  rotate_left
  · cases t1
  rename_i o ho
  simp only [Bool.and_eq_true, List.all_eq_true, List.isEmpty_iff] at t1
  have hov0 : ac_ov [] hp := fun q hq => (by cases hq)
  rcases ex_runS_ok (List.forall_mem_cons.mpr ⟨kp_M_remembers_0, fun _ h => absurd h List.not_mem_nil⟩) rfl (Nat.le_of_ble_eq_true rfl) ho hG hgs hov0 with ⟨r, hp', q, m1, -⟩ | ⟨pc', lv, st, hp1, A', m1, m2, m3, m4⟩
  · rw [t1.1] at m1
    cases m1
  obtain ⟨q1, q2⟩ := t1.2 _ m1
  have q1 := Nat.eq_of_beq_eq_true q1
  simp only at q1
  subst q1
  obtain ⟨γ2, -, h9, -⟩ := ac_le_ok q2 m2
  obtain ⟨b1, b2, b3, b4, -⟩ := h9
  obtain ⟨u0, l0, o0⟩ := b1 0 _ (List.mem_cons_self)
  obtain ⟨u1, l1, o1⟩ := b1 1 _ (List.mem_cons_of_mem _ List.mem_cons_self)
  obtain ⟨u2, l2, o2⟩ := b1 2 _ (List.mem_cons_of_mem _ (List.mem_cons_of_mem _ List.mem_cons_self))
  obtain ⟨c0, rfl, e0⟩ := ab_f2 o0.1
  cases List.mem_singleton.mp e0
  obtain ⟨rfl, p0, p1⟩ := ex_org o1
  obtain ⟨rfl, x0, x9⟩ := ex_org o2
  match st, b2, m4 with
  | [w1, w2, w3], ⟨s1, s2, s3, _⟩, m4 =>
    obtain ⟨rfl, -, -⟩ := ex_org s1
    obtain ⟨c1, rfl, e1⟩ := ab_f2 s2.1
    cases List.mem_singleton.mp e1
    obtain ⟨c2, rfl, e2⟩ := ab_f2 s3.1
    cases List.mem_singleton.mp e2
    obtain ⟨f, hf, fb⟩ := ac_arrI b3 (c := na_packed) (t := nr_packed) (n := 2) (lo := 0) (hi := 1023) (Nat.le_of_ble_eq_true rfl) rfl
    obtain ⟨f0, hf0, -⟩ := ac_arrI hG (c := na_packed) (t := nr_packed) (n := 2) (lo := 0) (hi := 1023) (Nat.le_of_ble_eq_true rfl) rfl
    have hff := m3.1 _ _ (by decide) hf0
    rw [hf] at hff
    cases hff
    obtain ⟨fs, hx, -, -⟩ := ac_obj b3 (c := 69) rfl
    obtain ⟨wp, hwp, -, -⟩ := nm_fI b3 hx (k := nf_wasPacked) (a := 0) (b := 1023) rfl
    have hk : nf_wasPacked < fs.length := (List.getElem?_eq_some_iff.mp hwp).1
    have hB : (ac_xs av 1).toNatClampNeg < 2 := by unfold Int32.toNatClampNeg; omega
    have hfb := fb _ hB
    have hG2 : ab_h nm_GH (hp1.set 69 (.inr (9, fs.set nf_wasPacked (.int (f (ac_xs av 1).toNatClampNeg))))) := nm_h_obj b3 hx (f := (0, 0, 1023, [])) (fun FS h => by cases h; rfl) ⟨rfl, hfb.1, hfb.2⟩
    have f2 : px_fr [(69, 48)] [] hp1 (hp1.set 69 (.inr (9, fs.set nf_wasPacked (.int (f (ac_xs av 1).toNatClampNeg))))) := px_fr_obj hx (by decide)
    have hx2 : (hp1.set 69 (.inr (9, fs.set nf_wasPacked (.int (f (ac_xs av 1).toNatClampNeg)))))[69]? = some (.inr (9, fs.set nf_wasPacked (.int (f (ac_xs av 1).toNatClampNeg)))) := List.getElem?_set_self (List.getElem?_eq_some_iff.mp hx).1
    have hf2 : (hp1.set 69 (.inr (9, fs.set nf_wasPacked (.int (f (ac_xs av 1).toNatClampNeg)))))[na_packed]? = some (.inl (nr_packed, 2, .inl f)) := by rw [List.getElem?_set_ne (by decide)]; exact hf
    have hw2 : ac_fv (hp1.set 69 (.inr (9, fs.set nf_wasPacked (.int (f (ac_xs av 1).toNatClampNeg))))) 69 48 = some (.int (f (ac_xs av 1).toNatClampNeg)) := by
      unfold ac_fv
      rw [hx2]
      exact List.getElem?_set_self hk
    generalize hh1 : hp1.set 69 (.inr (9, fs.set nf_wasPacked (.int (f (ac_xs av 1).toNatClampNeg)))) = hp2 at hG2 f2 hx2 hf2 hw2
    have hG3 : ab_h nm_GH (hp2.set na_packed (.inl (nr_packed, 2, .inl (upd f (ac_xs av 1).toNatClampNeg (ac_xs av 2))))) := ac_h_arr hG2 (c := na_packed) hf2 rfl (y := (nr_packed, 2, .inl (upd f (ac_xs av 1).toNatClampNeg (ac_xs av 2)))) ⟨rfl, rfl, fun j hj => by
      simp only [upd]
      split
      · exact ⟨rfl, x0, x9⟩
      · exact ⟨rfl, fb j hj⟩⟩
    have hf3 : (hp2.set na_packed (.inl (nr_packed, 2, .inl (upd f (ac_xs av 1).toNatClampNeg (ac_xs av 2)))))[na_packed]? = some (.inl (nr_packed, 2, .inl (upd f (ac_xs av 1).toNatClampNeg (ac_xs av 2)))) := List.getElem?_set_self (List.getElem?_eq_some_iff.mp hf2).1
    have hw3 : ac_fv (hp2.set na_packed (.inl (nr_packed, 2, .inl (upd f (ac_xs av 1).toNatClampNeg (ac_xs av 2))))) 69 48 = some (.int (f (ac_xs av 1).toNatClampNeg)) := by rw [ac_fv_arr hf2]; exact hw2
    have hlv := ex_sG (hp2.set na_packed (.inl (nr_packed, 2, .inl (upd f (ac_xs av 1).toNatClampNeg (ac_xs av 2))))) (L := tr_B10.1) rfl b1
    have f3 : px_fr [] [76] hp2 (hp2.set na_packed (.inl (nr_packed, 2, .inl (upd f (ac_xs av 1).toNatClampNeg (ac_xs av 2))))) := px_fr_arr hf2 (by decide)
    generalize hh2 : hp2.set na_packed (.inl (nr_packed, 2, .inl (upd f (ac_xs av 1).toNatClampNeg (ac_xs av 2)))) = hp3 at hG3 hf3 hw3 hlv f3
    unfold tr_e21 at t2
    split at t2
    rotate_left
    · cases t2
    rename_i o2 ho2
    simp only [Bool.and_eq_true, List.all_eq_true, List.isEmpty_iff] at t2
    rcases ex_goS (List.forall_mem_cons.mpr ⟨kp_M_isAsBefore_0, List.forall_mem_cons.mpr ⟨kp_M_reaches_0, fun _ h => absurd h List.not_mem_nil⟩⟩) ho2 (xs := ac_xs av) (γ := fun _ => 0) (lv := lv) (st := []) (hp := hp3) ⟨hlv, trivial, hG3, fun q hq => (by cases hq), fun j q hq => (by simp [tr_A21] at hq), fun i hi => (by cases hi), fun q hq => (by cases hq)⟩ with ⟨r, hp', q, n1, -⟩ | ⟨pc2, lv2, st2, hp4, A2, n1, n2, n3, n4⟩
    · rw [t2.1] at n1
      cases n1
    obtain ⟨q3, q4⟩ := t2.2 _ n1
    have q3 := Nat.eq_of_beq_eq_true q3
    simp only at q3
    subst q3
    obtain ⟨γ3, -, h8, -⟩ := ac_le_ok q4 n2
    obtain ⟨y1, y2, y3, y4, -⟩ := h8
    match st2, y2, n4 with
    | [v1, v2, v3], ⟨z1, z2, z3, _⟩, n4 =>
      obtain ⟨x, rfl, hxx⟩ := ab_f0 z1.1
      obtain ⟨rfl, -, -⟩ := ex_org z2
      obtain ⟨c3, rfl, e3⟩ := ab_f2 z3.1
      cases List.mem_singleton.mp e3
      have hw4 := ex_fv_fr n3 (by decide) hw3
      have hxw : x = f (ac_xs av 1).toNatClampNeg := by
        obtain ⟨w, w1, w2⟩ := z1.2 _ rfl
        have w1' : ac_fv hp4 69 48 = some w := w1
        rw [hw4] at w1'
        cases w1'
        simp only [ab_num, Option.some.injEq] at w2
        rw [← Int32.toInt_inj, w2]
      subst hxw
      have hf4 : hp4[na_packed]? = some (.inl (nr_packed, 2, .inl (upd f (ac_xs av 1).toNatClampNeg (ac_xs av 2)))) := n3.1 _ _ (by decide) hf3
      have hup : upd (upd f (ac_xs av 1).toNatClampNeg (ac_xs av 2)) (ac_xs av 1).toNatClampNeg (f (ac_xs av 1).toNatClampNeg) = f := by
        funext i
        simp only [upd]
        split
        · rename_i h
          rw [h]
        · rfl
      have hG5 : ab_h nm_GH (hp4.set na_packed (.inl (nr_packed, 2, .inl f))) := ac_h_arr y3 (c := na_packed) hf4 rfl (y := (nr_packed, 2, .inl f)) ⟨rfl, rfl, fun j hj => ⟨rfl, fb j hj⟩⟩
      have hf5 : (hp4.set na_packed (.inl (nr_packed, 2, .inl f)))[na_packed]? = some (.inl (nr_packed, 2, .inl f)) := List.getElem?_set_self (List.getElem?_eq_some_iff.mp hf4).1
      have hlv5 := ex_sA (hp4.set na_packed (.inl (nr_packed, 2, .inl f))) (L := tr_BS.1) rfl y1
      have f5 : px_fr [] [76] hp4 (hp4.set na_packed (.inl (nr_packed, 2, .inl f))) := px_fr_arr hf4 (by decide)
      generalize hh5 : hp4.set na_packed (.inl (nr_packed, 2, .inl f)) = hp5 at hG5 hf5 hlv5 f5
      unfold tr_eS at t3
      split at t3
      rotate_left
      · cases t3
      rename_i os hos
      obtain ⟨r, hp6, q, k1, k2, k3, k4⟩ := ex_goOn (List.forall_mem_cons.mpr ⟨kp_M_comesBack_0, List.forall_mem_cons.mpr ⟨kp_M_notes_0, fun _ h => absurd h List.not_mem_nil⟩⟩) hos (xs := ac_xs av) (γ := fun _ => 0) (lv := lv2) (st := []) (hp := hp5) ⟨hlv5, trivial, hG5, fun q hq => (by cases hq), fun j q hq => (by simp [tr_AS] at hq), fun i hi => (by cases hi), fun q hq => (by cases hq)⟩
      have hq := List.all_eq_true.mp t3 q k1
      have hf6 : hp6[na_packed]? = some (.inl (nr_packed, 2, .inl f)) := k4.1 _ _ (by decide) hf5
      refine ⟨r, hp6, _, List.mem_cons_self, m4 _ _ ?_, k3.2.1, ?_, fun q hq => (by cases hq), fun i hi => (by cases hi), ?_⟩
      · refine px_q_iald (len := 1) rfl hf rfl (nm_ixR _ 2 p0 (by omega)) ?_
        refine px_q_putf (len := 3) (ci := 9) (k := nf_wasPacked) (fs := fs) rfl rfl hx hk rfl rfl rfl rfl ?_
        rw [hh1]
        refine px_q_aln (pc := 14) (len := 1) (j := 0) rfl l0 ?_
        refine px_q_get (len := 3) (ci := 9) (k := nf_packed) (fs := fs.set nf_wasPacked (.int (f (ac_xs av 1).toNatClampNeg))) (v := .ref na_packed) rfl rfl hx2 (nm_f hG2 hx2 rfl) ?_
        refine px_q_iln (len := 1) (j := 1) rfl l1 ?_
        refine px_q_iln (len := 1) (j := 2) rfl l2 ?_
        refine px_q_iast (len := 1) rfl hf2 rfl (nm_ixR _ 2 p0 (by omega)) ?_
        rw [hh2]
        refine n4 _ _ ?_
        refine px_q_iast (len := 1) rfl hf4 rfl (nm_ixR _ 2 p0 (by omega)) ?_
        rw [hup, hh5]
        exact k2
      · have g := k3.1
        cases hq1 : q.1 with
        | none => rw [hq1] at hq; cases hq
        | some a =>
          rw [hq1] at hq g
          cases r with
          | none => exact absurd g (by simp)
          | some v => exact ab_le_ok hq g.1
      · refine px_fr_delA (c := 76) ?_ (by rw [hf0]; exact hf6)
        exact px_fr_tr (px_fr_mono m3 (by decide) (fun q hq => (by cases hq))) (px_fr_tr (px_fr_mono f2 (by decide) (fun q hq => (by cases hq))) (px_fr_tr (px_fr_mono f3 (fun q hq => (by cases hq)) (by decide)) (px_fr_tr (px_fr_mono n3 (by decide) (by decide)) (px_fr_tr (px_fr_mono f5 (fun q hq => (by cases hq)) (by decide)) (px_fr_mono k4 (by decide) (by decide))))))
theorem kp_M_tries_0 : nm_ok kc_M_tries_0 := rs_and kw_M_tries_0 ku_M_tries_0 rfl rfl
def kv_M_lets_0 : ac_K := (mi_M_lets, [(2, 0, 0, [69]), (0, 0, 1, []), (0, 0, 1023, [])], [], [(some (1, (-9223372036854775808), 9223372036854775807, []), [], [])], [(69, 34), (69, 35), (69, 36), (69, 45), (69, 46), (69, 48)], [76, 93, 94, 95, 96, 97])
def kt_M_lets_0 : ac_K := (mi_M_lets, [(2, 0, 0, [69]), (0, 0, 1, []), (0, 0, 1023, [])], [], [(some (1, (-9223372036854775808), 9223372036854775807, []), [], [])], [(69, 31), (69, 32), (69, 33), (69, 34), (69, 35), (69, 36), (69, 45), (69, 46), (69, 48)], [88, 89, 90, 93, 94, 95, 96, 97])
abbrev rl1_M_lets : rs_L := ([(0, ((2, 0, 0, [69]), none)), (1, ((0, 0, 1, []), some (2, 1, 0))), (2, ((0, 0, 1023, []), some (2, 2, 0)))], [((-2147483648), 2147483647), (0, 1), (0, 1023)])
abbrev rl2_M_lets : rs_L := ([(0, ((2, 0, 0, [69]), none)), (1, ((0, 0, 1, []), some (2, 1, 0))), (2, ((0, 0, 1023, []), some (2, 2, 0))), (3, ((0, 0, 1, []), none)), (4, ((0, 0, 6, []), none))], [((-2147483648), 2147483647), (0, 1), (0, 1023)])
set_option maxRecDepth 1000000 in
theorem rt_M_lets : (rs_e1 [] [] [] [] mi_M_lets mm_M_lets kv_M_lets_0.2.1 kv_M_lets_0.2.2.2.1 1 rl1_M_lets && (rs_e2 [kc_M_isAsBefore_0, kc_M_empties_0, kc_M_adds_0, kc_M_goesThrough_0, kc_M_keepsListed_0] [kl_M_lets_44] [(69, 31), (69, 32), (69, 33), (69, 45), (69, 46), (69, 48)] [76, 88, 89, 90, 93, 94, 95, 96, 97] mi_M_lets mm_M_lets 4 91 rl1_M_lets rl2_M_lets && rs_e3 [] [kl_M_lets_108] [] [] mi_M_lets mm_M_lets kv_M_lets_0.2.1 kv_M_lets_0.2.2.2.1 94 rl2_M_lets)) = true := by decide +kernel
theorem kw_M_lets_0 : nm_ok kv_M_lets_0 := rs_ok (i1 := 243) (i2 := 251) (fun _ h => absurd h List.not_mem_nil) (List.forall_mem_cons.mpr ⟨kp_M_isAsBefore_0, List.forall_mem_cons.mpr ⟨kp_M_empties_0, List.forall_mem_cons.mpr ⟨kp_M_adds_0, List.forall_mem_cons.mpr ⟨kp_M_goesThrough_0, List.forall_mem_cons.mpr ⟨kp_M_keepsListed_0, fun _ h => absurd h List.not_mem_nil⟩⟩⟩⟩⟩) (fun _ h => absurd h List.not_mem_nil) rfl (Nat.le_of_ble_eq_true rfl) rfl rfl rfl rfl (Bool.and_eq_true_iff.mp rt_M_lets).1 (Bool.and_eq_true_iff.mp (Bool.and_eq_true_iff.mp rt_M_lets).2).1 (Bool.and_eq_true_iff.mp (Bool.and_eq_true_iff.mp rt_M_lets).2).2 rfl rfl rfl (by decide +kernel)
abbrev le_fs : List ab_F := kt_M_lets_0.2.1
def le_B10 : ac_S := ([(0, ((2, 0, 0, [69]), none)), (1, ((0, 0, 1, []), some (2, 1, 0))), (2, ((0, 0, 1023, []), some (2, 2, 0)))], [((0, 0, 1, []), some (2, 1, 0)), ((2, 0, 0, [76]), none), ((2, 0, 0, [69]), none)], [], [], [], [])
def le_e10 : Bool := match ex_runS [kc_M_remembers_0] [] [(69, 34), (69, 35), (69, 36)] [] mi_M_lets mm_M_lets le_fs [] [10] with
  | some o => o.1.isEmpty && o.2.all (fun q => Nat.beq q.1 10 && ac_le nm_GH none q.2 le_B10)
  | none => false
def le_A21 : ac_S := (le_B10.1, [], [], [], [], [])
def le_BS : ac_S := ([(0, ((2, 0, 0, [69]), none)), (3, ((0, 0, 1, []), none))], [((0, 0, 1023, []), some (1, 69, 48)), ((0, 0, 1, []), some (2, 1, 0)), ((2, 0, 0, [76]), none)], [], [], [], [])
abbrev le_w1 : List (Nat × Nat) := [(69, 31), (69, 32), (69, 33), (69, 45), (69, 46)]
abbrev le_a1 : List Nat := [88, 89, 90, 93, 94, 95, 96, 97]
def le_e21 : Bool := match ac_run nm_T nm_P nm_GH nm_FA [kc_M_isAsBefore_0, kc_M_empties_0, kc_M_adds_0, kc_M_goesThrough_0, kc_M_keepsListed_0] [kl_M_lets_44] le_w1 le_a1 20000 false [89] mi_M_lets mm_M_lets 21 le_A21 with
  | some o => o.1.isEmpty && o.2.all (fun q => Nat.beq q.1 89 && ac_le nm_GH none q.2 le_BS)
  | none => false
def le_AS : ac_S := (le_BS.1, [], [], [], [], [])
abbrev le_w2 : List (Nat × Nat) := [(69, 31), (69, 32), (69, 33)]
abbrev le_a2 : List Nat := [88, 89, 90]
def le_eS : Bool := match ac_run nm_T nm_P nm_GH nm_FA [kc_M_comesBack_0] [kl_M_lets_108] le_w2 le_a2 20000 false [] mi_M_lets mm_M_lets 90 le_AS with
  | some (os, []) => os.all (fun o => match o.1 with | some a => ab_le a.1 (1, (-9223372036854775808), 9223372036854775807, []) | none => false)
  | _ => false
set_option maxRecDepth 1000000 in
theorem le_t : (le_e10 && (le_e21 && le_eS)) = true := by decide +kernel
set_option maxHeartbeats 4000000 in
theorem ku_M_lets_0 : nm_ok kt_M_lets_0 := by
  intro av hp hG hgs hfl
  have t := le_t
  simp only [Bool.and_eq_true] at t
  obtain ⟨t1, t2, t3⟩ := t
  unfold le_e10 at t1
  split at t1
  rotate_left
  · cases t1
  rename_i o ho
  simp only [Bool.and_eq_true, List.all_eq_true, List.isEmpty_iff] at t1
  have hov0 : ac_ov [] hp := fun q hq => (by cases hq)
  rcases ex_runS_ok (List.forall_mem_cons.mpr ⟨kp_M_remembers_0, fun _ h => absurd h List.not_mem_nil⟩) rfl (Nat.le_of_ble_eq_true rfl) ho hG hgs hov0 with ⟨r, hp', q, m1, -⟩ | ⟨pc', lv, st, hp1, A', m1, m2, m3, m4⟩
  · rw [t1.1] at m1
    cases m1
  obtain ⟨q1, q2⟩ := t1.2 _ m1
  have q1 := Nat.eq_of_beq_eq_true q1
  simp only at q1
  subst q1
  obtain ⟨γ2, -, h9, -⟩ := ac_le_ok q2 m2
  obtain ⟨b1, b2, b3, b4, -⟩ := h9
  obtain ⟨u0, l0, o0⟩ := b1 0 _ (List.mem_cons_self)
  obtain ⟨u1, l1, o1⟩ := b1 1 _ (List.mem_cons_of_mem _ List.mem_cons_self)
  obtain ⟨u2, l2, o2⟩ := b1 2 _ (List.mem_cons_of_mem _ (List.mem_cons_of_mem _ List.mem_cons_self))
  obtain ⟨c0, rfl, e0⟩ := ab_f2 o0.1
  cases List.mem_singleton.mp e0
  obtain ⟨rfl, p0, p1⟩ := ex_org o1
  obtain ⟨rfl, x0, x9⟩ := ex_org o2
  match st, b2, m4 with
  | [w1, w2, w3], ⟨s1, s2, s3, _⟩, m4 =>
    obtain ⟨rfl, -, -⟩ := ex_org s1
    obtain ⟨c1, rfl, e1⟩ := ab_f2 s2.1
    cases List.mem_singleton.mp e1
    obtain ⟨c2, rfl, e2⟩ := ab_f2 s3.1
    cases List.mem_singleton.mp e2
    obtain ⟨f, hf, fb⟩ := ac_arrI b3 (c := na_packed) (t := nr_packed) (n := 2) (lo := 0) (hi := 1023) (Nat.le_of_ble_eq_true rfl) rfl
    obtain ⟨f0, hf0, -⟩ := ac_arrI hG (c := na_packed) (t := nr_packed) (n := 2) (lo := 0) (hi := 1023) (Nat.le_of_ble_eq_true rfl) rfl
    have hff := m3.1 _ _ (by decide) hf0
    rw [hf] at hff
    cases hff
    obtain ⟨fs, hx, -, -⟩ := ac_obj b3 (c := 69) rfl
    obtain ⟨wp, hwp, -, -⟩ := nm_fI b3 hx (k := nf_wasPacked) (a := 0) (b := 1023) rfl
    have hk : nf_wasPacked < fs.length := (List.getElem?_eq_some_iff.mp hwp).1
    have hB : (ac_xs av 1).toNatClampNeg < 2 := by unfold Int32.toNatClampNeg; omega
    have hfb := fb _ hB
    have hG2 : ab_h nm_GH (hp1.set 69 (.inr (9, fs.set nf_wasPacked (.int (f (ac_xs av 1).toNatClampNeg))))) := nm_h_obj b3 hx (f := (0, 0, 1023, [])) (fun FS h => by cases h; rfl) ⟨rfl, hfb.1, hfb.2⟩
    have f2 : px_fr [(69, 48)] [] hp1 (hp1.set 69 (.inr (9, fs.set nf_wasPacked (.int (f (ac_xs av 1).toNatClampNeg))))) := px_fr_obj hx (by decide)
    have hx2 : (hp1.set 69 (.inr (9, fs.set nf_wasPacked (.int (f (ac_xs av 1).toNatClampNeg)))))[69]? = some (.inr (9, fs.set nf_wasPacked (.int (f (ac_xs av 1).toNatClampNeg)))) := List.getElem?_set_self (List.getElem?_eq_some_iff.mp hx).1
    have hf2 : (hp1.set 69 (.inr (9, fs.set nf_wasPacked (.int (f (ac_xs av 1).toNatClampNeg)))))[na_packed]? = some (.inl (nr_packed, 2, .inl f)) := by rw [List.getElem?_set_ne (by decide)]; exact hf
    have hw2 : ac_fv (hp1.set 69 (.inr (9, fs.set nf_wasPacked (.int (f (ac_xs av 1).toNatClampNeg))))) 69 48 = some (.int (f (ac_xs av 1).toNatClampNeg)) := by
      unfold ac_fv
      rw [hx2]
      exact List.getElem?_set_self hk
    generalize hh1 : hp1.set 69 (.inr (9, fs.set nf_wasPacked (.int (f (ac_xs av 1).toNatClampNeg)))) = hp2 at hG2 f2 hx2 hf2 hw2
    have hG3 : ab_h nm_GH (hp2.set na_packed (.inl (nr_packed, 2, .inl (upd f (ac_xs av 1).toNatClampNeg (ac_xs av 2))))) := ac_h_arr hG2 (c := na_packed) hf2 rfl (y := (nr_packed, 2, .inl (upd f (ac_xs av 1).toNatClampNeg (ac_xs av 2)))) ⟨rfl, rfl, fun j hj => by
      simp only [upd]
      split
      · exact ⟨rfl, x0, x9⟩
      · exact ⟨rfl, fb j hj⟩⟩
    have hf3 : (hp2.set na_packed (.inl (nr_packed, 2, .inl (upd f (ac_xs av 1).toNatClampNeg (ac_xs av 2)))))[na_packed]? = some (.inl (nr_packed, 2, .inl (upd f (ac_xs av 1).toNatClampNeg (ac_xs av 2)))) := List.getElem?_set_self (List.getElem?_eq_some_iff.mp hf2).1
    have hw3 : ac_fv (hp2.set na_packed (.inl (nr_packed, 2, .inl (upd f (ac_xs av 1).toNatClampNeg (ac_xs av 2))))) 69 48 = some (.int (f (ac_xs av 1).toNatClampNeg)) := by rw [ac_fv_arr hf2]; exact hw2
    have hlv := ex_sG (hp2.set na_packed (.inl (nr_packed, 2, .inl (upd f (ac_xs av 1).toNatClampNeg (ac_xs av 2))))) (L := le_B10.1) rfl b1
    have f3 : px_fr [] [76] hp2 (hp2.set na_packed (.inl (nr_packed, 2, .inl (upd f (ac_xs av 1).toNatClampNeg (ac_xs av 2))))) := px_fr_arr hf2 (by decide)
    generalize hh2 : hp2.set na_packed (.inl (nr_packed, 2, .inl (upd f (ac_xs av 1).toNatClampNeg (ac_xs av 2)))) = hp3 at hG3 hf3 hw3 hlv f3
    unfold le_e21 at t2
    split at t2
    rotate_left
    · cases t2
    rename_i o2 ho2
    simp only [Bool.and_eq_true, List.all_eq_true, List.isEmpty_iff] at t2
    rcases ex_goS (List.forall_mem_cons.mpr ⟨kp_M_isAsBefore_0, List.forall_mem_cons.mpr ⟨kp_M_empties_0, List.forall_mem_cons.mpr ⟨kp_M_adds_0, List.forall_mem_cons.mpr ⟨kp_M_goesThrough_0, List.forall_mem_cons.mpr ⟨kp_M_keepsListed_0, fun _ h => absurd h List.not_mem_nil⟩⟩⟩⟩⟩) ho2 (xs := ac_xs av) (γ := fun _ => 0) (lv := lv) (st := []) (hp := hp3) ⟨hlv, trivial, hG3, fun q hq => (by cases hq), fun j q hq => (by simp [le_A21] at hq), fun i hi => (by cases hi), fun q hq => (by cases hq)⟩ with ⟨r, hp', q, n1, -⟩ | ⟨pc2, lv2, st2, hp4, A2, n1, n2, n3, n4⟩
    · rw [t2.1] at n1
      cases n1
    obtain ⟨q3, q4⟩ := t2.2 _ n1
    have q3 := Nat.eq_of_beq_eq_true q3
    simp only at q3
    subst q3
    obtain ⟨γ3, -, h8, -⟩ := ac_le_ok q4 n2
    obtain ⟨y1, y2, y3, y4, -⟩ := h8
    match st2, y2, n4 with
    | [v1, v2, v3], ⟨z1, z2, z3, _⟩, n4 =>
      obtain ⟨x, rfl, hxx⟩ := ab_f0 z1.1
      obtain ⟨rfl, -, -⟩ := ex_org z2
      obtain ⟨c3, rfl, e3⟩ := ab_f2 z3.1
      cases List.mem_singleton.mp e3
      have hw4 := ex_fv_fr n3 (by decide) hw3
      have hxw : x = f (ac_xs av 1).toNatClampNeg := by
        obtain ⟨w, w1, w2⟩ := z1.2 _ rfl
        have w1' : ac_fv hp4 69 48 = some w := w1
        rw [hw4] at w1'
        cases w1'
        simp only [ab_num, Option.some.injEq] at w2
        rw [← Int32.toInt_inj, w2]
      subst hxw
      have hf4 : hp4[na_packed]? = some (.inl (nr_packed, 2, .inl (upd f (ac_xs av 1).toNatClampNeg (ac_xs av 2)))) := n3.1 _ _ (by decide) hf3
      have hup : upd (upd f (ac_xs av 1).toNatClampNeg (ac_xs av 2)) (ac_xs av 1).toNatClampNeg (f (ac_xs av 1).toNatClampNeg) = f := by
        funext i
        simp only [upd]
        split
        · rename_i h
          rw [h]
        · rfl
      have hG5 : ab_h nm_GH (hp4.set na_packed (.inl (nr_packed, 2, .inl f))) := ac_h_arr y3 (c := na_packed) hf4 rfl (y := (nr_packed, 2, .inl f)) ⟨rfl, rfl, fun j hj => ⟨rfl, fb j hj⟩⟩
      have hf5 : (hp4.set na_packed (.inl (nr_packed, 2, .inl f)))[na_packed]? = some (.inl (nr_packed, 2, .inl f)) := List.getElem?_set_self (List.getElem?_eq_some_iff.mp hf4).1
      have hlv5 := ex_sA (hp4.set na_packed (.inl (nr_packed, 2, .inl f))) (L := le_BS.1) rfl y1
      have f5 : px_fr [] [76] hp4 (hp4.set na_packed (.inl (nr_packed, 2, .inl f))) := px_fr_arr hf4 (by decide)
      generalize hh5 : hp4.set na_packed (.inl (nr_packed, 2, .inl f)) = hp5 at hG5 hf5 hlv5 f5
      unfold le_eS at t3
      split at t3
      rotate_left
      · cases t3
      rename_i os hos
      obtain ⟨r, hp6, q, k1, k2, k3, k4⟩ := ex_goOn (List.forall_mem_cons.mpr ⟨kp_M_comesBack_0, fun _ h => absurd h List.not_mem_nil⟩) hos (xs := ac_xs av) (γ := fun _ => 0) (lv := lv2) (st := []) (hp := hp5) ⟨hlv5, trivial, hG5, fun q hq => (by cases hq), fun j q hq => (by simp [le_AS] at hq), fun i hi => (by cases hi), fun q hq => (by cases hq)⟩
      have hq := List.all_eq_true.mp t3 q k1
      have hf6 : hp6[na_packed]? = some (.inl (nr_packed, 2, .inl f)) := k4.1 _ _ (by decide) hf5
      refine ⟨r, hp6, _, List.mem_cons_self, m4 _ _ ?_, k3.2.1, ?_, fun q hq => (by cases hq), fun i hi => (by cases hi), ?_⟩
      · refine px_q_iald (len := 1) rfl hf rfl (nm_ixR _ 2 p0 (by omega)) ?_
        refine px_q_putf (len := 3) (ci := 9) (k := nf_wasPacked) (fs := fs) rfl rfl hx hk rfl rfl rfl rfl ?_
        rw [hh1]
        refine px_q_aln (pc := 14) (len := 1) (j := 0) rfl l0 ?_
        refine px_q_get (len := 3) (ci := 9) (k := nf_packed) (fs := fs.set nf_wasPacked (.int (f (ac_xs av 1).toNatClampNeg))) (v := .ref na_packed) rfl rfl hx2 (nm_f hG2 hx2 rfl) ?_
        refine px_q_iln (len := 1) (j := 1) rfl l1 ?_
        refine px_q_iln (len := 1) (j := 2) rfl l2 ?_
        refine px_q_iast (len := 1) rfl hf2 rfl (nm_ixR _ 2 p0 (by omega)) ?_
        rw [hh2]
        refine n4 _ _ ?_
        refine px_q_iast (len := 1) rfl hf4 rfl (nm_ixR _ 2 p0 (by omega)) ?_
        rw [hup, hh5]
        exact k2
      · have g := k3.1
        cases hq1 : q.1 with
        | none => rw [hq1] at hq; cases hq
        | some a =>
          rw [hq1] at hq g
          cases r with
          | none => exact absurd g (by simp)
          | some v => exact ab_le_ok hq g.1
      · refine px_fr_delA (c := 76) ?_ (by rw [hf0]; exact hf6)
        exact px_fr_tr (px_fr_mono m3 (by decide) (fun q hq => (by cases hq))) (px_fr_tr (px_fr_mono f2 (by decide) (fun q hq => (by cases hq))) (px_fr_tr (px_fr_mono f3 (fun q hq => (by cases hq)) (by decide)) (px_fr_tr (px_fr_mono n3 (by decide) (by decide)) (px_fr_tr (px_fr_mono f5 (fun q hq => (by cases hq)) (by decide)) (px_fr_mono k4 (by decide) (by decide))))))
theorem kp_M_lets_0 : nm_ok kc_M_lets_0 := rs_and kw_M_lets_0 ku_M_lets_0 rfl rfl
