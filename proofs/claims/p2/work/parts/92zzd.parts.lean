/-! goesThrough: parts, the loop -/
set_option maxHeartbeats 4000000 in
theorem pa_loop {t : Nat} (ht : t ≤ 1) {o : Nat → Int64} {Gt : Int32} {gO gS : Nat → Int32} {b : Nat} {c : Int} {d bo : Int32} (d0 : 0 ≤ d.toInt) (d5 : d.toInt ≤ 5) (hbo : gO d.toNatClampNeg = bo) (b0 : 0 ≤ bo.toInt) (b1 : bo.toInt ≤ 1) (hb : bo.toNatClampNeg = b) (hG3 : Gt.toInt ≤ 3000) (hcount : ∀ e : Nat, (e : Int) < Gt.toInt → (nm_bc (nm_bg b (o e))).toInt ≤ c) :
    ∀ (m : Nat) (lv : List (Nat × Value)) (hp : px_H) (i : Nat), pa_K t o Gt gO gS b c hp → px_find 0 lv = some (.ref 69) → px_find 1 lv = some (.int (Int32.ofNat t)) → px_find 2 lv = some (.int d) → px_find 3 lv = some (.int (Int32.ofNat i)) → i ≤ 3000 → 3000 < i + m →
    ∃ (r : Int32) (hp' : px_H), px_Z nm_T none nm_P mm_M_parts 12 lv [] hp (some (.int r)) hp' ∧ (r = 0 ∨ r = 1) ∧ pa_K t o Gt gO gS b c hp' ∧ px_fr pa_ws df_wa hp hp' := by
  intro m
  induction m with
  | zero => intro lv hp i _ _ _ _ _ h1 h2; omega
  | succ m ih =>
    intro lv hp i hK l0 l1 l2 l3 hi hm
    have hK0 := hK
    obtain ⟨hG, hH, hTt, hT0, ⟨g, hg, hg0⟩, hO, hS⟩ := hK
    obtain ⟨fs, hx, -, -⟩ := ac_obj hG (c := 69) rfl
    have ei := nm_ofNat_toInt i (by omega)
    have head : ∀ (bb : Bool) (r : Option Value) (hp' : px_H), px_cmp .ge (Int32.ofNat i) Gt = bb → px_Z nm_T none nm_P mm_M_parts (bif bb then 92 else 22) lv [] hp r hp' → px_Z nm_T none nm_P mm_M_parts 12 lv [] hp r hp' := by
      intro bb r hp' hc h
      refine px_q_iln (len := 1) (j := 3) rfl l3 ?_
      refine px_q_aln (len := 1) (j := 0) rfl l0 ?_
      refine px_q_get (len := 3) (ci := 9) (k := nf_size) (fs := fs) (v := .ref na_size) rfl rfl hx (nm_f hG hx rfl) ?_
      refine px_q_iln (len := 1) (j := 1) rfl l1 ?_
      refine px_q_iald (len := 1) rfl hg rfl (nm_inR t 3 (by omega) (by decide)) ?_
      rw [nm_ofNat_clamp t (by omega), hg0]
      refine px_q_icmp (bb := bb) (len := 3) (c := .ge) (off := 73) rfl hc ?_
      cases bb
      · exact h
      · exact h
    by_cases hge : Gt.toInt ≤ i
    · refine ⟨1, hp, head true _ _ ?_ ?_, Or.inr rfl, hK0, px_fr_rf _ _ _⟩
      · simp only [px_cmp, decide_eq_true_eq, ge_iff_le, Int32.le_iff_toInt_le, ei]; exact hge
      · refine px_Z_its (pc1 := 93) (lv1 := lv) (st1 := [.int 1]) (hp1 := hp) 1 (fun _ _ _ _ => rfl) ?_
        exact px_q_iret (len := 1) (ty := .boolean) rfl rfl rfl
    have hcmp : px_cmp .ge (Int32.ofNat i) Gt = false := by simp only [px_cmp, decide_eq_false_iff_not, ge_iff_le, Int32.le_iff_toInt_le, ei]; exact hge
    have inc : ∀ hq : px_H, pa_K t o Gt gO gS b c hq → ∃ (r : Int32) (hp' : px_H), px_Z nm_T none nm_P mm_M_parts 86 lv [] hq (some (.int r)) hp' ∧ (r = 0 ∨ r = 1) ∧ pa_K t o Gt gO gS b c hp' ∧ px_fr pa_ws df_wa hq hp' := by
      intro hq hKq
      have e1 : Int32.ofNat i + Int32.ofInt 1 = Int32.ofNat (i + 1) := by rw [Int32.ofNat_add]; rfl
      obtain ⟨r, hp', z1, z2, z3, z4⟩ := ih (px_st1 lv 3 (.int (Int32.ofNat (i + 1)))) hq (i + 1) hKq (px_st1_nr l0) (px_st1_ne l1) (ab_sto1_find l2 (by decide) (fun _ hc => by cases hc)) (px_st1_at _ _ _) (by omega) (by omega)
      refine ⟨r, hp', ?_, z2, z3, z4⟩
      refine px_q_iinc (len := 3) (j := 3) (n := 1) rfl l3 rfl ?_
      rw [e1]
      exact px_Z_its (pc1 := 12) (lv1 := px_st1 lv 3 (.int (Int32.ofNat (i + 1)))) (st1 := []) (hp1 := hq) 1 (fun _ _ _ _ => rfl) z1
    obtain ⟨gq, o1, s1, s2, s3⟩ := hTt
    rw [hg] at s1
    cases s1
    have hil : (i : Int) < Gt.toInt := by omega
    have ho1 : o1 (t * 3001 + i) = o i := s3 i (by rw [hg0]; exact hil)
    obtain ⟨hp1, gB, c1, c2, c3, c4, c5⟩ := nm_looks hG s2 (tn := t) (e := i) (by omega) (by omega)
    have hK1 : pa_K t o Gt gO gS b c hp1 := pa_K_fr c3 c2 (by decide) (by decide) (by decide) (by decide) (by decide) hK0
    have hb2 : b < 2 := by rw [← hb]; unfold Int32.toNatClampNeg; omega
    have hgb : (nm_bc (gB b)).toInt ≤ c := by rw [c5 b hb2, ho1]; exact hcount i hil
    have hfr1 : px_fr pa_ws df_wa hp hp1 := px_fr_mono c3 (by decide) (by decide)
    obtain ⟨fs1, hx1, -, -⟩ := ac_obj c2 (c := 69) rfl
    obtain ⟨sv1, hs1, -, -⟩ := nm_fI c2 hx1 (k := nf_sitting) (a := 0) (b := 1023) rfl
    obtain ⟨ov, hov, hr01, -⟩ := nm_over c2 hx1 c4 hK1.2.2.2.2.2.1 hK1.2.2.2.2.2.2 hs1 d0 d5 hbo b0 b1
    have hin := nm_inR (t * 3001 + i) 9003 (by omega) (by decide)
    have hcl := nm_ofNat_clamp (t * 3001 + i) (by omega)
    have pre : ∀ (r : Option Value) (h9 : px_H), px_Z nm_T none nm_P mm_M_parts 33 lv [.int ov] hp1 r h9 → px_Z nm_T none nm_P mm_M_parts 12 lv [] hp r h9 := by
      intro r h9 h
      refine head false _ _ hcmp ?_
      refine px_q_aln (pc := 22) (len := 1) (j := 0) rfl l0 ?_
      refine px_q_iln (len := 1) (j := 1) rfl l1 ?_
      refine px_q_iln (len := 1) (j := 3) rfl l3 ?_
      refine px_q_virt (len := 3) (n := 2) (a := 69) (N := mm_M_looksAt) (mi := mi_M_looksAt) (ci := 9) rfl rfl rfl hx rfl (Nat.le_of_ble_eq_true rfl) (Nat.le_of_ble_eq_true rfl) rfl rfl c1 ?_
      refine px_q_aln (pc := 28) (len := 1) (j := 0) rfl l0 ?_
      refine px_q_iln (len := 1) (j := 2) rfl l2 ?_
      exact px_q_virt (len := 3) (n := 1) (a := 69) (N := mm_M_isOver) (mi := mi_M_isOver) (ci := 9) rfl rfl rfl hx1 rfl (Nat.le_of_ble_eq_true rfl) (Nat.le_of_ble_eq_true rfl) rfl rfl hov h
    rcases hr01 with rfl | rfl
    · -- not over
      by_cases ht1 : t = 1
      · subst ht1
        obtain ⟨pt, hpt, -⟩ := ac_arrL c2 (c := na_part) (t := nr_part) (n := 9003) (Nat.le_of_ble_eq_true rfl) rfl
        obtain ⟨r2, hp2, a1, a2, a3, a4⟩ := pa_adds hK1 (by decide) (tn := 0) (by decide) (by decide) (by decide) (pt (1 * 3001 + i)) c4 hb2 (fun _ => hgb)
        obtain ⟨r, hp', z1, z2, z3, z4⟩ := inc hp2 a3
        refine ⟨r, hp', pre _ _ ?_, z2, z3, px_fr_tr hfr1 (px_fr_tr (px_fr_mono a4 (by decide) (by decide)) z4)⟩
        refine px_q_if (bb := true) (len := 3) (c := .eq) (off := 30) rfl (by decide) ?_
        refine px_q_iln (pc := 63) (len := 1) (j := 1) rfl l1 ?_
        refine px_Z_its (pc1 := 65) (lv1 := lv) (st1 := [.int 1, .int (Int32.ofNat 1)]) (hp1 := hp1) 1 (fun _ _ _ _ => rfl) ?_
        refine px_q_icmp (bb := false) (len := 3) (c := .ne) (off := 21) rfl (by decide) ?_
        refine px_q_aln (pc := 68) (len := 1) (j := 0) rfl l0 ?_
        refine px_Z_its (pc1 := 70) (lv1 := lv) (st1 := [.int (Int32.ofNat 0), .ref 69]) (hp1 := hp1) 1 (fun _ _ _ _ => rfl) ?_
        refine px_q_aln (len := 1) (j := 0) rfl l0 ?_
        refine px_q_get (len := 3) (ci := 9) (k := nf_part) (fs := fs1) (v := .ref na_part) rfl rfl hx1 (nm_f c2 hx1 rfl) ?_
        refine px_q_iln (len := 1) (j := 1) rfl l1 ?_
        refine px_Z_its (pc1 := 79) (lv1 := lv) (st1 := [.int (Int32.ofNat 1 * (Int16.ofInt 3001).toInt32), .ref na_part, .int (Int32.ofNat 0), .ref 69]) (hp1 := hp1) 2 (fun _ _ _ _ => rfl) ?_
        refine px_q_iln (len := 1) (j := 3) rfl l3 ?_
        refine px_Z_its (pc1 := 81) (lv1 := lv) (st1 := [.int (Int32.ofNat 1 * (Int16.ofInt 3001).toInt32 + Int32.ofNat i), .ref na_part, .int (Int32.ofNat 0), .ref 69]) (hp1 := hp1) 1 (fun _ _ _ _ => rfl) ?_
        rw [nm_tix]
        refine px_q_lald (len := 1) rfl hpt rfl hin ?_
        rw [hcl]
        refine px_q_virt (len := 3) (n := 2) (a := 69) (N := mm_M_adds) (mi := mi_M_adds) (ci := 9) rfl rfl rfl hx1 rfl (Nat.le_of_ble_eq_true rfl) (Nat.le_of_ble_eq_true rfl) rfl rfl a1 ?_
        exact px_Z_its (pc1 := 86) (lv1 := lv) (st1 := []) (hp1 := hp2) 1 (fun _ _ _ _ => rfl) z1
      · obtain ⟨r, hp', z1, z2, z3, z4⟩ := inc hp1 hK1
        refine ⟨r, hp', pre _ _ ?_, z2, z3, px_fr_tr hfr1 z4⟩
        have : t = 0 := by omega
        subst this
        refine px_q_if (bb := true) (len := 3) (c := .eq) (off := 30) rfl (by decide) ?_
        refine px_q_iln (pc := 63) (len := 1) (j := 1) rfl l1 ?_
        refine px_Z_its (pc1 := 65) (lv1 := lv) (st1 := [.int 1, .int (Int32.ofNat 0)]) (hp1 := hp1) 1 (fun _ _ _ _ => rfl) ?_
        exact px_q_icmp (bb := true) (len := 3) (c := .ne) (off := 21) rfl (by decide) z1
    · -- over
      obtain ⟨r9, hp2, o9, m1, m2, m3, m4, m5, -, m7⟩ := kp_M_closes_0 [.ref 69, .int d] hp1 c2 ⟨⟨rfl, List.mem_cons_self⟩, ⟨rfl, d0, d5⟩, trivial⟩ (fun i hi => by cases hi)
      have hr9 : r9 = none := by
        cases List.mem_singleton.mp m1
        cases r9 with
        | none => rfl
        | some v => exact absurd m4 (by simp [ac_rv])
      subst hr9
      have hK2 : pa_K t o Gt gO gS b c hp2 := pa_K_fr m7 m3 (by decide) (by decide) (by decide) (by decide) (by decide) hK1
      obtain ⟨fs2, hx2, -, -⟩ := ac_obj m3 (c := 69) rfl
      obtain ⟨gB2, hB2, -⟩ := ac_arrI m3 (c := na_inBag) (t := nr_inBag) (n := 2) (lo := 0) (hi := 1023) (Nat.le_of_ble_eq_true rfl) rfl
      obtain ⟨pt, hpt, -⟩ := ac_arrL m3 (c := na_part) (t := nr_part) (n := 9003) (Nat.le_of_ble_eq_true rfl) rfl
      obtain ⟨r2, hp3, a1, a2, a3, a4⟩ := pa_adds hK2 (by omega) (tn := 2) (by decide) (by omega) (by decide) (pt (t * 3001 + i)) hB2 hb2 (fun h => absurd h (by decide))
      have hfr3 : px_fr pa_ws df_wa hp hp3 := px_fr_tr hfr1 (px_fr_tr (px_fr_mono m7 (by decide) (by decide)) (px_fr_mono a4 (by decide) (by decide)))
      have pre2 : ∀ (r : Option Value) (h9 : px_H), px_Z nm_T none nm_P mm_M_parts 58 lv [.int r2] hp3 r h9 → px_Z nm_T none nm_P mm_M_parts 12 lv [] hp r h9 := by
        intro r h9 h
        refine pre _ _ ?_
        refine px_q_if (bb := false) (len := 3) (c := .eq) (off := 30) rfl (by decide) ?_
        refine px_q_aln (pc := 36) (len := 1) (j := 0) rfl l0 ?_
        refine px_q_iln (len := 1) (j := 2) rfl l2 ?_
        refine px_q_virt (len := 3) (n := 1) (a := 69) (N := mm_M_closes) (mi := mi_M_closes) (ci := 9) rfl rfl rfl hx1 rfl (Nat.le_of_ble_eq_true rfl) (Nat.le_of_ble_eq_true rfl) rfl rfl m2 ?_
        refine px_q_aln (pc := 41) (len := 1) (j := 0) rfl l0 ?_
        refine px_Z_its (pc1 := 43) (lv1 := lv) (st1 := [.int (Int32.ofNat 2), .ref 69]) (hp1 := hp2) 1 (fun _ _ _ _ => rfl) ?_
        refine px_q_aln (len := 1) (j := 0) rfl l0 ?_
        refine px_q_get (len := 3) (ci := 9) (k := nf_part) (fs := fs2) (v := .ref na_part) rfl rfl hx2 (nm_f m3 hx2 rfl) ?_
        refine px_q_iln (len := 1) (j := 1) rfl l1 ?_
        refine px_Z_its (pc1 := 52) (lv1 := lv) (st1 := [.int (Int32.ofNat t * (Int16.ofInt 3001).toInt32), .ref na_part, .int (Int32.ofNat 2), .ref 69]) (hp1 := hp2) 2 (fun _ _ _ _ => rfl) ?_
        refine px_q_iln (len := 1) (j := 3) rfl l3 ?_
        refine px_Z_its (pc1 := 54) (lv1 := lv) (st1 := [.int (Int32.ofNat t * (Int16.ofInt 3001).toInt32 + Int32.ofNat i), .ref na_part, .int (Int32.ofNat 2), .ref 69]) (hp1 := hp2) 1 (fun _ _ _ _ => rfl) ?_
        rw [nm_tix]
        refine px_q_lald (len := 1) rfl hpt rfl hin ?_
        rw [hcl]
        exact px_q_virt (len := 3) (n := 2) (a := 69) (N := mm_M_adds) (mi := mi_M_adds) (ci := 9) rfl rfl rfl hx2 rfl (Nat.le_of_ble_eq_true rfl) (Nat.le_of_ble_eq_true rfl) rfl rfl a1 h
      rcases a2 with rfl | rfl
      · refine ⟨0, hp3, pre2 _ _ ?_, Or.inl rfl, a3, hfr3⟩
        refine px_q_if (bb := false) (len := 3) (c := .ne) (off := 28) rfl (by decide) ?_
        refine px_Z_its (pc1 := 62) (lv1 := lv) (st1 := [.int 0]) (hp1 := hp3) 1 (fun _ _ _ _ => rfl) ?_
        exact px_q_iret (len := 1) (ty := .boolean) rfl rfl rfl
      · obtain ⟨r, hp', z1, z2, z3, z4⟩ := inc hp3 a3
        exact ⟨r, hp', pre2 _ _ (px_q_if (bb := true) (len := 3) (c := .ne) (off := 28) rfl (by decide) z1), z2, z3, px_fr_tr hfr3 z4⟩
