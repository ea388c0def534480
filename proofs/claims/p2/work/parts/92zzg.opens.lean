/-! goesThrough: opensAll -/
abbrev oa_ws : List (Nat × Nat) := [(69, nf_putBy), (69, nf_sitting)]
set_option maxHeartbeats 4000000 in
theorem oa_loop {d : Int32} (d0 : 0 ≤ d.toInt) (d5 : d.toInt ≤ 5) : ∀ (m : Nat) (lv : List (Nat × Value)) (hp : px_H) (i : Nat), ab_h nm_GH hp → nm_HI 0 hp → px_find 0 lv = some (.ref 69) → px_find 1 lv = some (.int d) → px_find 2 lv = some (.int (Int32.ofNat i)) → i ≤ 3000 → 3000 < i + m →
    ∃ hp' : px_H, px_Z nm_T none nm_P mm_M_opensAll 7 lv [] hp none hp' ∧ ab_h nm_GH hp' ∧ nm_HI 0 hp' ∧ px_fr oa_ws df_wa hp hp' := by
  intro m
  induction m with
  | zero => intro lv hp i _ _ _ _ _ h1 h2; omega
  | succ m ih =>
    intro lv hp i hG hH l0 l1 l2 hi hm
    obtain ⟨fs, hx, -, -⟩ := ac_obj hG (c := 69) rfl
    obtain ⟨g, hg, hgb⟩ := ac_arrI hG (c := na_size) (t := nr_size) (n := 3) (lo := 0) (hi := 3000) (Nat.le_of_ble_eq_true rfl) rfl
    have hg2 := hgb 2 (by decide)
    have ei := nm_ofNat_toInt i (by omega)
    have head : ∀ (bb : Bool) (r : Option Value) (hp' : px_H), px_cmp .ge (Int32.ofNat i) (g 2) = bb → px_Z nm_T none nm_P mm_M_opensAll (bif bb then 50 else 17) lv [] hp r hp' → px_Z nm_T none nm_P mm_M_opensAll 7 lv [] hp r hp' := by
      intro bb r hp' hc h
      refine px_q_iln (len := 1) (j := 2) rfl l2 ?_
      refine px_q_aln (len := 1) (j := 0) rfl l0 ?_
      refine px_q_get (len := 3) (ci := 9) (k := nf_size) (fs := fs) (v := .ref na_size) rfl rfl hx (nm_f hG hx rfl) ?_
      refine px_Z_its (pc1 := 13) (lv1 := lv) (st1 := [.int 2, .ref na_size, .int (Int32.ofNat i)]) (hp1 := hp) 1 (fun _ _ _ _ => rfl) ?_
      refine px_q_iald (len := 1) rfl hg rfl rfl ?_
      refine px_q_icmp (bb := bb) (len := 3) (c := .ge) (off := 36) rfl hc ?_
      cases bb
      · exact h
      · exact h
    by_cases hge : (g 2).toInt ≤ i
    · refine ⟨hp, head true _ _ ?_ (px_q_ret (len := 1) rfl rfl), hG, hH, px_fr_rf _ _ _⟩
      simp only [px_cmp, decide_eq_true_eq, ge_iff_le, Int32.le_iff_toInt_le, ei]; exact hge
    have hcmp : px_cmp .ge (Int32.ofNat i) (g 2) = false := by simp only [px_cmp, decide_eq_false_iff_not, ge_iff_le, Int32.le_iff_toInt_le, ei]; exact hge
    obtain ⟨o1, h1, -⟩ := ac_arrL hG (c := na_one) (t := nr_one) (n := 9003) (Nat.le_of_ble_eq_true rfl) rfl
    obtain ⟨hp1, gB, c1, c2, c3, c4, c5⟩ := nm_looks hG h1 (tn := 2) (e := i) (by decide) (by omega)
    obtain ⟨fs1, hx1, -, -⟩ := ac_obj c2 (c := 69) rfl
    obtain ⟨r9, hp2, o9, m1, m2, m3, m4, m5, -, m7⟩ := kp_M_opens_0 [.ref 69, .int d] hp1 c2 ⟨⟨rfl, List.mem_cons_self⟩, ⟨rfl, d0, d5⟩, trivial⟩ (fun i hi => by cases hi)
    have hr9 : r9 = none := by
      cases List.mem_singleton.mp m1
      cases r9 with
      | none => rfl
      | some v => exact absurd m4 (by simp [ac_rv])
    subst hr9
    have hH2 : nm_HI 0 hp2 := nm_HI_fr m7 (by decide) (by decide) (nm_HI_fr c3 (by decide) (by decide) hH)
    obtain ⟨fs2, hx2, -, -⟩ := ac_obj m3 (c := 69) rfl
    obtain ⟨pt, hpt, -⟩ := ac_arrL m3 (c := na_part) (t := nr_part) (n := 9003) (Nat.le_of_ble_eq_true rfl) rfl
    obtain ⟨ra, hp3, a1, a2, a3, a4, a5⟩ := nm_adds_C m3 (tn := 0) (by decide) hH2 (pt (2 * 3001 + i))
    obtain ⟨hp', z1, z2, z3, z4⟩ := ih (px_st1 lv 2 (.int (Int32.ofNat (i + 1)))) hp3 (i + 1) a2 a3 (px_st1_nr l0) (ab_sto1_find l1 (by decide) (fun _ hc => by cases hc)) (px_st1_at _ _ _) (by omega) (by omega)
    refine ⟨hp', head false _ _ hcmp ?_, z2, z3, px_fr_tr (px_fr_tr (px_fr_mono c3 (by decide) (by decide)) (px_fr_tr (px_fr_mono m7 (by decide) (by decide)) (px_fr_mono a4 (by decide) (by decide)))) z4⟩
    have hin := nm_inR (2 * 3001 + i) 9003 (by omega) (by decide)
    have hcl := nm_ofNat_clamp (2 * 3001 + i) (by omega)
    have e1 : Int32.ofNat i + Int32.ofInt 1 = Int32.ofNat (i + 1) := by rw [Int32.ofNat_add]; rfl
    have e2 : (Int16.ofInt 6002).toInt32 + Int32.ofNat i = Int32.ofNat (2 * 3001 + i) := by rw [Int32.ofNat_add]; rfl
    refine px_q_aln (pc := 17) (len := 1) (j := 0) rfl l0 ?_
    refine px_Z_its (pc1 := 19) (lv1 := lv) (st1 := [.int (Int32.ofNat 2), .ref 69]) (hp1 := hp) 1 (fun _ _ _ _ => rfl) ?_
    refine px_q_iln (len := 1) (j := 2) rfl l2 ?_
    refine px_q_virt (len := 3) (n := 2) (a := 69) (N := mm_M_looksAt) (mi := mi_M_looksAt) (ci := 9) rfl rfl rfl hx rfl (Nat.le_of_ble_eq_true rfl) (Nat.le_of_ble_eq_true rfl) rfl rfl c1 ?_
    refine px_q_aln (pc := 23) (len := 1) (j := 0) rfl l0 ?_
    refine px_q_iln (len := 1) (j := 1) rfl l1 ?_
    refine px_q_virt (len := 3) (n := 1) (a := 69) (N := mm_M_opens) (mi := mi_M_opens) (ci := 9) rfl rfl rfl hx1 rfl (Nat.le_of_ble_eq_true rfl) (Nat.le_of_ble_eq_true rfl) rfl rfl m2 ?_
    refine px_q_aln (pc := 28) (len := 1) (j := 0) rfl l0 ?_
    refine px_Z_its (pc1 := 30) (lv1 := lv) (st1 := [.int (Int32.ofNat 0), .ref 69]) (hp1 := hp2) 1 (fun _ _ _ _ => rfl) ?_
    refine px_q_aln (len := 1) (j := 0) rfl l0 ?_
    refine px_q_get (len := 3) (ci := 9) (k := nf_part) (fs := fs2) (v := .ref na_part) rfl rfl hx2 (nm_f m3 hx2 rfl) ?_
    refine px_Z_its (pc1 := 37) (lv1 := lv) (st1 := [.int (Int16.ofInt 6002).toInt32, .ref na_part, .int (Int32.ofNat 0), .ref 69]) (hp1 := hp2) 1 (fun _ _ _ _ => rfl) ?_
    refine px_q_iln (len := 1) (j := 2) rfl l2 ?_
    refine px_Z_its (pc1 := 39) (lv1 := lv) (st1 := [.int ((Int16.ofInt 6002).toInt32 + Int32.ofNat i), .ref na_part, .int (Int32.ofNat 0), .ref 69]) (hp1 := hp2) 1 (fun _ _ _ _ => rfl) ?_
    rw [e2]
    refine px_q_lald (len := 1) rfl hpt rfl hin ?_
    rw [hcl]
    refine px_q_virt (len := 3) (n := 2) (a := 69) (N := mm_M_adds) (mi := mi_M_adds) (ci := 9) rfl rfl rfl hx2 rfl (Nat.le_of_ble_eq_true rfl) (Nat.le_of_ble_eq_true rfl) rfl rfl a1 ?_
    refine px_Z_its (pc1 := 44) (lv1 := lv) (st1 := []) (hp1 := hp3) 1 (fun _ _ _ _ => by rcases a5 with rfl | rfl <;> rfl) ?_
    refine px_q_iinc (len := 3) (j := 2) (n := 1) rfl l2 rfl ?_
    rw [e1]
    exact px_Z_its (pc1 := 7) (lv1 := px_st1 lv 2 (.int (Int32.ofNat (i + 1)))) (st1 := []) (hp1 := hp3) 1 (fun _ _ _ _ => rfl) z1
theorem oa_C {d : Int32} (d0 : 0 ≤ d.toInt) (d5 : d.toInt ≤ 5) {hp : px_H} (hG : ab_h nm_GH hp) : ∃ hp' : px_H, px_C nm_T nm_P mi_M_opensAll [.ref 69, .int d] hp none hp' ∧ ab_h nm_GH hp' ∧ nm_HI 0 hp' ∧ px_fr oa_ws df_wa hp hp' := by
  obtain ⟨fs, hx, -, -⟩ := ac_obj hG (c := 69) rfl
  obtain ⟨hp1, e1, e2, e3, e4, -⟩ := nm_empt hG (tn := 0) (by decide)
  obtain ⟨hp', z1, z2, z3, z4⟩ := oa_loop d0 d5 3001 [(2, .int (Int32.ofNat 0)), (0, .ref 69), (1, .int d)] hp1 0 e2 e4 rfl rfl rfl (by decide) (by decide)
  refine ⟨hp', px_C_of (N := mm_M_opensAll) rfl (Nat.le_of_ble_eq_true rfl) ?_, z2, z3, px_fr_tr (px_fr_mono e3 (by decide) (by decide)) z4⟩
  refine px_Z_its (pc1 := 2) (lv1 := [(0, .ref 69), (1, .int d)]) (st1 := [.int (Int32.ofNat 0), .ref 69]) (hp1 := hp) 2 (fun _ _ _ _ => rfl) ?_
  refine px_q_virt (len := 3) (n := 1) (a := 69) (N := mm_M_empties) (mi := mi_M_empties) (ci := 9) rfl rfl rfl hx rfl (Nat.le_of_ble_eq_true rfl) (Nat.le_of_ble_eq_true rfl) rfl rfl e1 ?_
  exact px_Z_its (pc1 := 7) (lv1 := [(2, .int (Int32.ofNat 0)), (0, .ref 69), (1, .int d)]) (st1 := []) (hp1 := hp1) 2 (fun _ _ _ _ => rfl) z1
