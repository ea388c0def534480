/-! goesThrough: the outer loop and the contract -/
set_option maxHeartbeats 4000000 in
theorem gt_outer {gO gS : Nat → Int32} {b : Nat} {d bo : Int32} (d0 : 0 ≤ d.toInt) (d5 : d.toInt ≤ 5) (hbo : gO d.toNatClampNeg = bo) (b0 : 0 ≤ bo.toInt) (b1 : bo.toInt ≤ 1) (hb : bo.toNatClampNeg = b) :
    ∀ (n : Nat) (lv : List (Nat × Value)) (hp : px_H), ab_h nm_GH hp → nm_HI 0 hp → nm_HI 2 hp → nm_TE 0 (fun _ v => (nm_bc (nm_bg b v)).toInt ≤ n) hp → hp[na_bagOf]? = some (.inl (nr_bagOf, 6, .inl gO)) → hp[na_seatsOf]? = some (.inl (nr_seatsOf, 6, .inl gS)) → px_find 0 lv = some (.ref 69) → px_find 1 lv = some (.int d) → px_find 2 lv = some (.int 1) →
    ∃ (r : Int32) (hp' : px_H), px_Z nm_T none nm_P mm_M_goesThrough 33 lv [] hp (some (.int r)) hp' ∧ (r = 0 ∨ r = 1) ∧ ab_h nm_GH hp' ∧ px_fr gt_ws df_wa hp hp' := by
  intro n
  induction n with
  | zero =>
    intro lv hp hG hH0 hH2 hT hO hS l0 l1 l2
    obtain ⟨fs, hx, -, -⟩ := ac_obj hG (c := 69) rfl
    obtain ⟨hp1, e1, e2, e3, e4, e5, e6, e7, e8⟩ := nm_empt hG (tn := 1) (by decide)
    obtain ⟨g, o1, t1, t2, t3⟩ := e7 0 _ (by decide) hT
    obtain ⟨g', hg', hgb⟩ := ac_arrI e2 (c := na_size) (t := nr_size) (n := 3) (lo := 0) (hi := 3000) (Nat.le_of_ble_eq_true rfl) rfl
    rw [t1] at hg'
    cases hg'
    have hg0 := hgb 0 (by decide)
    have hK : df_K (fun e => o1 (0 * 3001 + e)) (g 0) gO b (((0 : Nat) : Int) - 1) hp1 := by
      refine ⟨e2, fun t ht => ?_, ⟨g, o1, t1, t2, fun e _ => rfl⟩, e6 _, ⟨g, t1, rfl⟩, e3.1 _ _ (by decide) hO⟩
      match t, ht with
      | 0, _ => exact e5 0 (by decide) hH0
      | 1, _ => exact e4
      | 2, _ => exact e5 2 (by decide) hH2
      | t + 3, ht => omega
    have pre : ∀ (r : Option Value) (h9 : px_H), px_Z nm_T none nm_P mm_M_goesThrough 46 (px_st1 (px_st1 lv 2 (.int 0)) 3 (.int (Int32.ofNat 0))) [] hp1 r h9 → px_Z nm_T none nm_P mm_M_goesThrough 33 lv [] hp r h9 := by
      intro r h9 h
      refine px_q_iln (len := 1) (j := 2) rfl l2 ?_
      refine px_q_if (bb := false) (len := 3) (c := .eq) (off := 70) rfl (by decide) ?_
      refine px_q_aln (pc := 37) (len := 1) (j := 0) rfl l0 ?_
      refine px_Z_its (pc1 := 39) (lv1 := lv) (st1 := [.int (Int32.ofNat 1), .ref 69]) (hp1 := hp) 1 (fun _ _ _ _ => rfl) ?_
      refine px_q_virt (len := 3) (n := 1) (a := 69) (N := mm_M_empties) (mi := mi_M_empties) (ci := 9) rfl rfl rfl hx rfl (Nat.le_of_ble_eq_true rfl) (Nat.le_of_ble_eq_true rfl) rfl rfl e1 ?_
      exact px_Z_its (pc1 := 46) (lv1 := px_st1 (px_st1 lv 2 (.int 0)) 3 (.int (Int32.ofNat 0))) (st1 := []) (hp1 := hp1) 4 (fun _ _ _ _ => rfl) h
    have hf1 : px_fr gt_ws df_wa hp hp1 := px_fr_mono e3 (by decide) (by decide)
    rcases gt_inner (n := 0) d0 d5 hbo b0 b1 hb hg0.2 (fun e he => t3 e he) 3001 (px_st1 (px_st1 lv 2 (.int 0)) 3 (.int (Int32.ofNat 0))) hp1 0 0 hK (e3.1 _ _ (by decide) hS) (px_st1_nr (px_st1_nr l0)) (px_st1_ne (ab_sto1_find l1 (by decide) (fun _ hc => by cases hc))) (ab_sto1_find (px_st1_at _ _ _) (by decide) (fun _ hc => by cases hc)) (px_st1_at _ _ _) (Or.inl rfl) (fun _ => rfl) (by decide) (by decide) with ⟨hp', z1, z2, z3⟩ | ⟨lv', hp', on', z1, z2, z3, z4, z5, z6, z7, z8, z9⟩
    · exact ⟨0, hp', pre _ _ z1, Or.inl rfl, z2, px_fr_tr hf1 z3⟩
    · have h0 := z8 rfl
      subst h0
      refine ⟨1, hp', pre _ _ (z1 _ _ ?_), Or.inr rfl, z2.1, px_fr_tr hf1 z9⟩
      refine px_q_iln (len := 1) (j := 2) rfl z6 ?_
      refine px_q_if (bb := true) (len := 3) (c := .eq) (off := -57) rfl (by decide) ?_
      refine px_q_iln (pc := 33) (len := 1) (j := 2) rfl z6 ?_
      refine px_q_if (bb := true) (len := 3) (c := .eq) (off := 70) rfl (by decide) ?_
      refine px_Z_its (pc1 := 105) (lv1 := lv') (st1 := [.int 1]) (hp1 := hp') 1 (fun _ _ _ _ => rfl) ?_
      exact px_q_iret (len := 1) (ty := .boolean) rfl rfl rfl
  | succ k ih =>
    intro lv hp hG hH0 hH2 hT hO hS l0 l1 l2
    obtain ⟨fs, hx, -, -⟩ := ac_obj hG (c := 69) rfl
    obtain ⟨hp1, e1, e2, e3, e4, e5, e6, e7, e8⟩ := nm_empt hG (tn := 1) (by decide)
    obtain ⟨g, o1, t1, t2, t3⟩ := e7 0 _ (by decide) hT
    obtain ⟨g', hg', hgb⟩ := ac_arrI e2 (c := na_size) (t := nr_size) (n := 3) (lo := 0) (hi := 3000) (Nat.le_of_ble_eq_true rfl) rfl
    rw [t1] at hg'
    cases hg'
    have hg0 := hgb 0 (by decide)
    have hK : df_K (fun e => o1 (0 * 3001 + e)) (g 0) gO b (((k + 1 : Nat) : Int) - 1) hp1 := by
      refine ⟨e2, fun t ht => ?_, ⟨g, o1, t1, t2, fun e _ => rfl⟩, e6 _, ⟨g, t1, rfl⟩, e3.1 _ _ (by decide) hO⟩
      match t, ht with
      | 0, _ => exact e5 0 (by decide) hH0
      | 1, _ => exact e4
      | 2, _ => exact e5 2 (by decide) hH2
      | t + 3, ht => omega
    have pre : ∀ (r : Option Value) (h9 : px_H), px_Z nm_T none nm_P mm_M_goesThrough 46 (px_st1 (px_st1 lv 2 (.int 0)) 3 (.int (Int32.ofNat 0))) [] hp1 r h9 → px_Z nm_T none nm_P mm_M_goesThrough 33 lv [] hp r h9 := by
      intro r h9 h
      refine px_q_iln (len := 1) (j := 2) rfl l2 ?_
      refine px_q_if (bb := false) (len := 3) (c := .eq) (off := 70) rfl (by decide) ?_
      refine px_q_aln (pc := 37) (len := 1) (j := 0) rfl l0 ?_
      refine px_Z_its (pc1 := 39) (lv1 := lv) (st1 := [.int (Int32.ofNat 1), .ref 69]) (hp1 := hp) 1 (fun _ _ _ _ => rfl) ?_
      refine px_q_virt (len := 3) (n := 1) (a := 69) (N := mm_M_empties) (mi := mi_M_empties) (ci := 9) rfl rfl rfl hx rfl (Nat.le_of_ble_eq_true rfl) (Nat.le_of_ble_eq_true rfl) rfl rfl e1 ?_
      exact px_Z_its (pc1 := 46) (lv1 := px_st1 (px_st1 lv 2 (.int 0)) 3 (.int (Int32.ofNat 0))) (st1 := []) (hp1 := hp1) 4 (fun _ _ _ _ => rfl) h
    have hf1 : px_fr gt_ws df_wa hp hp1 := px_fr_mono e3 (by decide) (by decide)
    rcases gt_inner (n := k + 1) d0 d5 hbo b0 b1 hb hg0.2 (fun e he => t3 e he) 3001 (px_st1 (px_st1 lv 2 (.int 0)) 3 (.int (Int32.ofNat 0))) hp1 0 0 hK (e3.1 _ _ (by decide) hS) (px_st1_nr (px_st1_nr l0)) (px_st1_ne (ab_sto1_find l1 (by decide) (fun _ hc => by cases hc))) (ab_sto1_find (px_st1_at _ _ _) (by decide) (fun _ hc => by cases hc)) (px_st1_at _ _ _) (Or.inl rfl) (fun _ => rfl) (by decide) (by decide) with ⟨hp', z1, z2, z3⟩ | ⟨lv', hp', on', z1, z2, z3, z4, z5, z6, z7, z8, z9⟩
    · exact ⟨0, hp', pre _ _ z1, Or.inl rfl, z2, px_fr_tr hf1 z3⟩
    · rcases z7 with rfl | rfl
      · refine ⟨1, hp', pre _ _ (z1 _ _ ?_), Or.inr rfl, z2.1, px_fr_tr hf1 z9⟩
        refine px_q_iln (len := 1) (j := 2) rfl z6 ?_
        refine px_q_if (bb := true) (len := 3) (c := .eq) (off := -57) rfl (by decide) ?_
        refine px_q_iln (pc := 33) (len := 1) (j := 2) rfl z6 ?_
        refine px_q_if (bb := true) (len := 3) (c := .eq) (off := 70) rfl (by decide) ?_
        refine px_Z_its (pc1 := 105) (lv1 := lv') (st1 := [.int 1]) (hp1 := hp') 1 (fun _ _ _ _ => rfl) ?_
        exact px_q_iret (len := 1) (ty := .boolean) rfl rfl rfl
      · obtain ⟨w1, w2, w3, w4, ⟨gs, w5, w6⟩, w7⟩ := z2
        obtain ⟨g2, o2, s1, s2, s3⟩ := w4
        obtain ⟨g3, hg3, hgb3⟩ := ac_arrI w1 (c := na_size) (t := nr_size) (n := 3) (lo := 0) (hi := 3000) (Nat.le_of_ble_eq_true rfl) rfl
        rw [s1] at hg3
        cases hg3
        have hg1 := hgb3 1 (by decide)
        obtain ⟨fs', hx', -, -⟩ := ac_obj w1 (c := 69) rfl
        obtain ⟨r, hp2, c1, c2, c3, c4⟩ := pa_C1 (o := fun e => o2 (1 * 3001 + e)) (Gt := g2 1) (c := (k : Int)) (b := b) w1 (w2 2 (by decide)) ⟨g2, o2, s1, s2, fun e _ => rfl⟩ ⟨g2, s1, rfl⟩ w7 z3 d0 d5 hbo b0 b1 hb hg1.2 (fun e he => by have := s3 e he; simp only at this ⊢; omega)
        have hf2 : px_fr gt_ws df_wa hp hp2 := px_fr_tr (px_fr_tr hf1 z9) (px_fr_mono c4 (by decide) (by decide))
        have pre2 : ∀ (r9 : Option Value) (h9 : px_H), px_Z nm_T none nm_P mm_M_goesThrough 99 lv' [.int r] hp2 r9 h9 → px_Z nm_T none nm_P mm_M_goesThrough 33 lv [] hp r9 h9 := by
          intro r9 h9 h
          refine pre _ _ (z1 _ _ ?_)
          refine px_q_iln (len := 1) (j := 2) rfl z6 ?_
          refine px_q_if (bb := false) (len := 3) (c := .eq) (off := -57) rfl (by decide) ?_
          refine px_q_aln (pc := 93) (len := 1) (j := 0) rfl z4 ?_
          refine px_Z_its (pc1 := 95) (lv1 := lv') (st1 := [.int (Int32.ofNat 1), .ref 69]) (hp1 := hp') 1 (fun _ _ _ _ => rfl) ?_
          refine px_q_iln (len := 1) (j := 1) rfl z5 ?_
          exact px_q_virt (len := 3) (n := 2) (a := 69) (N := mm_M_parts) (mi := mi_M_parts) (ci := 9) rfl rfl rfl hx' rfl (Nat.le_of_ble_eq_true rfl) (Nat.le_of_ble_eq_true rfl) rfl rfl c1 h
        rcases c2 with rfl | rfl
        · refine ⟨0, hp2, pre2 _ _ ?_, Or.inl rfl, c3.1, hf2⟩
          refine px_q_if (bb := false) (len := 3) (c := .ne) (off := -66) rfl (by decide) ?_
          refine px_Z_its (pc1 := 103) (lv1 := lv') (st1 := [.int 0]) (hp1 := hp2) 1 (fun _ _ _ _ => rfl) ?_
          exact px_q_iret (len := 1) (ty := .boolean) rfl rfl rfl
        · obtain ⟨y1, y2, -, y4, -, y6, y7⟩ := c3
          obtain ⟨r, hp', q1, q2, q3, q4⟩ := ih lv' hp2 y1 (y2 0 (by decide) (by decide)) (y2 2 (by decide) (by decide)) y4 y6 y7 z4 z5 z6
          exact ⟨r, hp', pre2 _ _ (px_q_if (bb := true) (len := 3) (c := .ne) (off := -66) rfl (by decide) q1), q2, q3, px_fr_tr hf2 q4⟩
set_option maxHeartbeats 4000000 in
theorem kp_M_goesThrough_0 : nm_ok kc_M_goesThrough_0 := by
  intro av hp hG hgs hfl
  obtain ⟨v, w, rfl, hv, hw⟩ := nm_arg2 hgs
  obtain ⟨c, rfl, hc⟩ := ab_f2 hv
  cases List.mem_singleton.mp hc
  obtain ⟨d, rfl, hd⟩ := ab_f0 hw
  have d0 := hd.1
  have d5 := hd.2
  simp only at d0 d5
  have fin : (∃ (r : Int32) (hp' : px_H), px_Z nm_T none nm_P mm_M_goesThrough 0 (lv_args 0 [.ref 69, .int d]) [] hp (some (.int r)) hp' ∧ (r = 0 ∨ r = 1) ∧ ab_h nm_GH hp' ∧ px_fr gt_ws df_wa hp hp') →
      ∃ (r : Option Value) (hp' : px_H) (o : Option ab_F × List (Nat × ab_B) × List Nat), o ∈ kc_M_goesThrough_0.2.2.2.1 ∧ px_C nm_T nm_P kc_M_goesThrough_0.1 [.ref 69, .int d] hp r hp' ∧ ab_h nm_GH hp' ∧ ac_rv o.1 r ∧ (∀ q ∈ o.2.1, ∃ v z, [Value.ref 69, .int d][q.1]? = some v ∧ ab_num v = some z ∧ ab_in q.2 z) ∧ (∀ i ∈ o.2.2, nm_Φ i hp') ∧ px_fr kc_M_goesThrough_0.2.2.2.2.1 kc_M_goesThrough_0.2.2.2.2.2 hp hp' := by
    rintro ⟨r, hp', z1, z2, z3, z4⟩
    refine ⟨some (.int r), hp', _, List.mem_cons_self, px_C_of (N := mm_M_goesThrough) rfl (Nat.le_of_ble_eq_true rfl) z1, z3, ?_, fun q hq => (by cases hq), fun i hi => (by cases hi), px_fr_mono z4 (by decide) (by decide)⟩
    rcases z2 with rfl | rfl
    · exact ⟨rfl, by decide, by decide⟩
    · exact ⟨rfl, by decide, by decide⟩
  refine fin ?_
  obtain ⟨fs, hx, -, -⟩ := ac_obj hG (c := 69) rfl
  obtain ⟨ds, hds⟩ := nm_fJ hG hx (k := nf_drawnSum) (a := -9223372036854775808) (b := 9223372036854775807) rfl
  have hkd : nf_drawnSum < fs.length := (List.getElem?_eq_some_iff.mp hds).1
  have hl69 : 69 < hp.length := (List.getElem?_eq_some_iff.mp hx).1
  have hG1 : ab_h nm_GH (hp.set 69 (.inr (9, fs.set nf_drawnSum (.long 0)))) := nm_h_obj hG hx (f := (1, -9223372036854775808, 9223372036854775807, [])) (fun FS h => by cases h; rfl) ⟨rfl, ab_i64 _⟩
  have hf1 : px_fr gt_ws df_wa hp (hp.set 69 (.inr (9, fs.set nf_drawnSum (.long 0)))) := px_fr_obj hx (by decide)
  have hx1 : (hp.set 69 (.inr (9, fs.set nf_drawnSum (.long 0))))[69]? = some (.inr (9, fs.set nf_drawnSum (.long 0))) := List.getElem?_set_self hl69
  generalize hh1 : hp.set 69 (.inr (9, fs.set nf_drawnSum (.long 0))) = hpA at hG1 hf1 hx1
  generalize hff1 : fs.set nf_drawnSum (.long 0) = fsA at hx1
  obtain ⟨vs, hvs⟩ := nm_fJ hG1 hx1 (k := nf_vainSum) (a := -9223372036854775808) (b := 9223372036854775807) rfl
  have hkv : nf_vainSum < fsA.length := (List.getElem?_eq_some_iff.mp hvs).1
  have hlA : 69 < hpA.length := (List.getElem?_eq_some_iff.mp hx1).1
  have hG2 : ab_h nm_GH (hpA.set 69 (.inr (9, fsA.set nf_vainSum (.long 0)))) := nm_h_obj hG1 hx1 (f := (1, -9223372036854775808, 9223372036854775807, [])) (fun FS h => by cases h; rfl) ⟨rfl, ab_i64 _⟩
  have hf2 : px_fr gt_ws df_wa hpA (hpA.set 69 (.inr (9, fsA.set nf_vainSum (.long 0)))) := px_fr_obj hx1 (by decide)
  have hx2 : (hpA.set 69 (.inr (9, fsA.set nf_vainSum (.long 0))))[69]? = some (.inr (9, fsA.set nf_vainSum (.long 0))) := List.getElem?_set_self hlA
  generalize hh2 : hpA.set 69 (.inr (9, fsA.set nf_vainSum (.long 0))) = hpB at hG2 hf2 hx2
  generalize hff2 : fsA.set nf_vainSum (.long 0) = fsB at hx2
  obtain ⟨hp3, c1, c2, c3, c4⟩ := oa_C d0 d5 hG2
  obtain ⟨fs3, hx3, -, -⟩ := ac_obj c2 (c := 69) rfl
  obtain ⟨hp4, e1, e2, e3, e4, e5, e6, e7, e8⟩ := nm_empt c2 (tn := 2) (by decide)
  obtain ⟨fs4, hx4, -, -⟩ := ac_obj e2 (c := 69) rfl
  obtain ⟨gO, hO, bO⟩ := ac_arrI e2 (c := na_bagOf) (t := nr_bagOf) (n := 6) (lo := 0) (hi := 1) (Nat.le_of_ble_eq_true rfl) rfl
  obtain ⟨gS, hS, -⟩ := ac_arrI e2 (c := na_seatsOf) (t := nr_seatsOf) (n := 6) (lo := 0) (hi := 3) (Nat.le_of_ble_eq_true rfl) rfl
  obtain ⟨g, hg, hgb⟩ := ac_arrI e2 (c := na_size) (t := nr_size) (n := 3) (lo := 0) (hi := 3000) (Nat.le_of_ble_eq_true rfl) rfl
  obtain ⟨o1, h1, -⟩ := ac_arrL e2 (c := na_one) (t := nr_one) (n := 9003) (Nat.le_of_ble_eq_true rfl) rfl
  have hdn : d.toNatClampNeg < 6 := by unfold Int32.toNatClampNeg; omega
  have hO2 := bO _ hdn
  have hg0 := hgb 0 (by decide)
  have hK : pa_K 0 (fun e => o1 (0 * 3001 + e)) (g 0) gO gS (gO d.toNatClampNeg).toNatClampNeg ((63 : Nat) : Int) hp4 := by
    refine ⟨e2, fun t ht hu => ?_, ⟨g, o1, hg, h1, fun e _ => rfl⟩, ⟨g, o1, hg, h1, fun e _ => (nm_bc_63 _).2⟩, ⟨g, hg, rfl⟩, hO, hS⟩
    match t, ht, hu with
    | 0, _, _ => exact e5 0 (by decide) c3
    | 2, _, _ => exact e4
    | 1, _, hu => exact absurd rfl hu
    | t + 3, ht, _ => omega
  obtain ⟨r, hp5, p1, p2, p3, p4⟩ := pa_C0 hK d0 d5 rfl hO2.1 hO2.2 rfl hg0.2 (fun e _ => (nm_bc_63 _).2)
  have hf5 : px_fr gt_ws df_wa hp hp5 := px_fr_tr (px_fr_tr (px_fr_tr (px_fr_tr hf1 hf2) (px_fr_mono c4 (by decide) (by decide))) (px_fr_mono e3 (by decide) (by decide))) (px_fr_mono p4 (by decide) (by decide))
  have pre : ∀ (r9 : Option Value) (h9 : px_H), px_Z nm_T none nm_P mm_M_goesThrough 26 [(0, .ref 69), (1, .int d)] [.int r] hp5 r9 h9 → px_Z nm_T none nm_P mm_M_goesThrough 0 (lv_args 0 [.ref 69, .int d]) [] hp r9 h9 := by
    intro r9 h9 h
    refine px_Z_its (pc1 := 2) (lv1 := [(0, .ref 69), (1, .int d)]) (st1 := [.long 0, .ref 69]) (hp1 := hp) 2 (fun _ _ _ _ => rfl) ?_
    refine px_q_putf (len := 3) (ci := 9) (k := nf_drawnSum) (fs := fs) rfl rfl hx hkd rfl rfl rfl rfl ?_
    rw [hh1]
    refine px_Z_its (pc1 := 7) (lv1 := [(0, .ref 69), (1, .int d)]) (st1 := [.long 0, .ref 69]) (hp1 := hpA) 2 (fun _ _ _ _ => rfl) ?_
    refine px_q_putf (len := 3) (ci := 9) (k := nf_vainSum) (fs := fsA) rfl rfl hx1 hkv rfl rfl rfl rfl ?_
    rw [hh2]
    refine px_Z_its (pc1 := 12) (lv1 := [(0, .ref 69), (1, .int d)]) (st1 := [.int d, .ref 69]) (hp1 := hpB) 2 (fun _ _ _ _ => rfl) ?_
    refine px_q_virt (len := 3) (n := 1) (a := 69) (N := mm_M_opensAll) (mi := mi_M_opensAll) (ci := 9) rfl rfl rfl hx2 rfl (Nat.le_of_ble_eq_true rfl) (Nat.le_of_ble_eq_true rfl) rfl rfl c1 ?_
    refine px_Z_its (pc1 := 17) (lv1 := [(0, .ref 69), (1, .int d)]) (st1 := [.int (Int32.ofNat 2), .ref 69]) (hp1 := hp3) 2 (fun _ _ _ _ => rfl) ?_
    refine px_q_virt (len := 3) (n := 1) (a := 69) (N := mm_M_empties) (mi := mi_M_empties) (ci := 9) rfl rfl rfl hx3 rfl (Nat.le_of_ble_eq_true rfl) (Nat.le_of_ble_eq_true rfl) rfl rfl e1 ?_
    refine px_Z_its (pc1 := 23) (lv1 := [(0, .ref 69), (1, .int d)]) (st1 := [.int d, .int (Int32.ofNat 0), .ref 69]) (hp1 := hp4) 3 (fun _ _ _ _ => rfl) ?_
    exact px_q_virt (len := 3) (n := 2) (a := 69) (N := mm_M_parts) (mi := mi_M_parts) (ci := 9) rfl rfl rfl hx4 rfl (Nat.le_of_ble_eq_true rfl) (Nat.le_of_ble_eq_true rfl) rfl rfl p1 h
  rcases p2 with rfl | rfl
  · refine ⟨0, hp5, pre _ _ ?_, Or.inl rfl, p3.1, hf5⟩
    refine px_q_if (bb := false) (len := 3) (c := .ne) (off := 5) rfl (by decide) ?_
    refine px_Z_its (pc1 := 30) (lv1 := [(0, .ref 69), (1, .int d)]) (st1 := [.int 0]) (hp1 := hp5) 1 (fun _ _ _ _ => rfl) ?_
    exact px_q_iret (len := 1) (ty := .boolean) rfl rfl rfl
  · obtain ⟨y1, y2, -, y4, -, y6, y7⟩ := p3
    obtain ⟨r, hp', q1, q2, q3, q4⟩ := gt_outer d0 d5 rfl hO2.1 hO2.2 rfl 63 [(2, .int 1), (0, .ref 69), (1, .int d)] hp5 y1 (y2 0 (by decide) (by decide)) (y2 2 (by decide) (by decide)) y4 y6 y7 rfl rfl rfl
    refine ⟨r, hp', pre _ _ ?_, q2, q3, px_fr_tr hf5 q4⟩
    refine px_q_if (bb := true) (len := 3) (c := .ne) (off := 5) rfl (by decide) ?_
    exact px_Z_its (pc1 := 33) (lv1 := [(2, .int 1), (0, .ref 69), (1, .int d)]) (st1 := []) (hp1 := hp5) 2 (fun _ _ _ _ => rfl) q1
