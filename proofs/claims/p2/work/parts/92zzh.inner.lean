/-! goesThrough: the inner loop -/
abbrev gt_ws : List (Nat × Nat) := [(69, nf_putBy), (69, nf_sitting), (69, nf_next), (69, nf_drawnSum), (69, nf_vainSum)]
set_option maxHeartbeats 4000000 in
theorem gt_inner {o : Nat → Int64} {G0 : Int32} {gO gS : Nat → Int32} {b n : Nat} {d bo : Int32} (d0 : 0 ≤ d.toInt) (d5 : d.toInt ≤ 5) (hbo : gO d.toNatClampNeg = bo) (b0 : 0 ≤ bo.toInt) (b1 : bo.toInt ≤ 1) (hb : bo.toNatClampNeg = b) (hG3 : G0.toInt ≤ 3000) (hcount : ∀ e : Nat, (e : Int) < G0.toInt → (nm_bc (nm_bg b (o e))).toInt ≤ n) :
    ∀ (m : Nat) (lv : List (Nat × Value)) (hp : px_H) (i : Nat) (on : Int32), df_K o G0 gO b ((n : Int) - 1) hp → hp[na_seatsOf]? = some (.inl (nr_seatsOf, 6, .inl gS)) → px_find 0 lv = some (.ref 69) → px_find 1 lv = some (.int d) → px_find 2 lv = some (.int on) → px_find 3 lv = some (.int (Int32.ofNat i)) → (on = 0 ∨ on = 1) → (n = 0 → on = 0) → i ≤ 3000 → 3000 < i + m →
    (∃ hp' : px_H, px_Z nm_T none nm_P mm_M_goesThrough 46 lv [] hp (some (.int 0)) hp' ∧ ab_h nm_GH hp' ∧ px_fr gt_ws df_wa hp hp') ∨
    (∃ (lv' : List (Nat × Value)) (hp' : px_H) (on' : Int32), (∀ (r : Option Value) (h9 : px_H), px_Z nm_T none nm_P mm_M_goesThrough 89 lv' [] hp' r h9 → px_Z nm_T none nm_P mm_M_goesThrough 46 lv [] hp r h9) ∧ df_K o G0 gO b ((n : Int) - 1) hp' ∧ hp'[na_seatsOf]? = some (.inl (nr_seatsOf, 6, .inl gS)) ∧ px_find 0 lv' = some (.ref 69) ∧ px_find 1 lv' = some (.int d) ∧ px_find 2 lv' = some (.int on') ∧ (on' = 0 ∨ on' = 1) ∧ (n = 0 → on' = 0) ∧ px_fr gt_ws df_wa hp hp') := by
  intro m
  induction m with
  | zero => intro lv hp i on _ _ _ _ _ _ _ _ h1 h2; omega
  | succ m ih =>
    intro lv hp i on hK hS l0 l1 l2 l3 hon hn0 hi hm
    have hK0 := hK
    obtain ⟨hG, hH, hT0, hT1, ⟨g, hg, hg0⟩, hO⟩ := hK
    obtain ⟨fs, hx, -, -⟩ := ac_obj hG (c := 69) rfl
    have ei := nm_ofNat_toInt i (by omega)
    have head : ∀ (bb : Bool) (r : Option Value) (hp' : px_H), px_cmp .ge (Int32.ofNat i) G0 = bb → px_Z nm_T none nm_P mm_M_goesThrough (bif bb then 89 else 56) lv [] hp r hp' → px_Z nm_T none nm_P mm_M_goesThrough 46 lv [] hp r hp' := by
      intro bb r hp' hc h
      refine px_q_iln (len := 1) (j := 3) rfl l3 ?_
      refine px_q_aln (len := 1) (j := 0) rfl l0 ?_
      refine px_q_get (len := 3) (ci := 9) (k := nf_size) (fs := fs) (v := .ref na_size) rfl rfl hx (nm_f hG hx rfl) ?_
      refine px_Z_its (pc1 := 52) (lv1 := lv) (st1 := [.int 0, .ref na_size, .int (Int32.ofNat i)]) (hp1 := hp) 1 (fun _ _ _ _ => rfl) ?_
      refine px_q_iald (len := 1) rfl hg rfl rfl ?_
      rw [show (0 : Int32).toNatClampNeg = 0 from rfl, hg0]
      refine px_q_icmp (bb := bb) (len := 3) (c := .ge) (off := 36) rfl hc ?_
      cases bb
      · exact h
      · exact h
    by_cases hge : G0.toInt ≤ i
    · refine Or.inr ⟨lv, hp, on, fun r h9 h => head true _ _ ?_ h, hK0, hS, l0, l1, l2, hon, hn0, px_fr_rf _ _ _⟩
      simp only [px_cmp, decide_eq_true_eq, ge_iff_le, Int32.le_iff_toInt_le, ei]; exact hge
    have hcmp : px_cmp .ge (Int32.ofNat i) G0 = false := by simp only [px_cmp, decide_eq_false_iff_not, ge_iff_le, Int32.le_iff_toInt_le, ei]; exact hge
    have e1 : Int32.ofNat i + Int32.ofInt 1 = Int32.ofNat (i + 1) := by rw [Int32.ofNat_add]; rfl
    have hT0' := hT0
    obtain ⟨gq, o1, s1, s2, s3⟩ := hT0'
    rw [hg] at s1
    cases s1
    have hil : (i : Int) < G0.toInt := by omega
    have ho1 : o1 (0 * 3001 + i) = o i := s3 i (by rw [hg0]; exact hil)
    obtain ⟨hp1, gB, c1, c2, c3, c4, c5⟩ := nm_looks hG s2 (tn := 0) (e := i) (by decide) (by omega)
    have hK1 : df_K o G0 gO b ((n : Int) - 1) hp1 := df_K_fr c3 c2 (by decide) (by decide) (by decide) (by decide) hK0
    have hS1 := c3.1 na_seatsOf _ (by decide) hS
    have hb2 : b < 2 := by rw [← hb]; unfold Int32.toNatClampNeg; omega
    have hgw : gB bo.toNatClampNeg = nm_bg b (o i) := by rw [hb, c5 b hb2, ho1]
    obtain ⟨gB', hB', bB⟩ := ac_arrI c2 (c := na_inBag) (t := nr_inBag) (n := 2) (lo := 0) (hi := 1023) (Nat.le_of_ble_eq_true rfl) rfl
    rw [c4] at hB'
    cases hB'
    have hwb := bB bo.toNatClampNeg (by rw [hb]; exact hb2)
    rw [hgw] at hwb
    obtain ⟨fs1, hx1, -, -⟩ := ac_obj c2 (c := 69) rfl
    obtain ⟨sv1, hs1, -, -⟩ := nm_fI c2 hx1 (k := nf_sitting) (a := 0) (b := 1023) rfl
    obtain ⟨ov, hov, hr01, hr0⟩ := nm_over c2 hx1 c4 hK1.2.2.2.2.2 hS1 hs1 d0 d5 hbo b0 b1
    have hfr1 : px_fr gt_ws df_wa hp hp1 := px_fr_mono c3 (by decide) (by decide)
    have pre : ∀ (r : Option Value) (h9 : px_H), px_Z nm_T none nm_P mm_M_goesThrough 67 lv [.int ov] hp1 r h9 → px_Z nm_T none nm_P mm_M_goesThrough 46 lv [] hp r h9 := by
      intro r h9 h
      refine head false _ _ hcmp ?_
      refine px_q_aln (pc := 56) (len := 1) (j := 0) rfl l0 ?_
      refine px_Z_its (pc1 := 58) (lv1 := lv) (st1 := [.int (Int32.ofNat 0), .ref 69]) (hp1 := hp) 1 (fun _ _ _ _ => rfl) ?_
      refine px_q_iln (len := 1) (j := 3) rfl l3 ?_
      refine px_q_virt (len := 3) (n := 2) (a := 69) (N := mm_M_looksAt) (mi := mi_M_looksAt) (ci := 9) rfl rfl rfl hx rfl (Nat.le_of_ble_eq_true rfl) (Nat.le_of_ble_eq_true rfl) rfl rfl c1 ?_
      refine px_q_aln (pc := 62) (len := 1) (j := 0) rfl l0 ?_
      refine px_q_iln (len := 1) (j := 1) rfl l1 ?_
      exact px_q_virt (len := 3) (n := 1) (a := 69) (N := mm_M_isOver) (mi := mi_M_isOver) (ci := 9) rfl rfl rfl hx1 rfl (Nat.le_of_ble_eq_true rfl) (Nat.le_of_ble_eq_true rfl) rfl rfl hov h
    have nxt : ∀ (lv2 : List (Nat × Value)) (hq : px_H) (on2 : Int32), (∀ (r : Option Value) (h9 : px_H), px_Z nm_T none nm_P mm_M_goesThrough 83 lv2 [] hq r h9 → px_Z nm_T none nm_P mm_M_goesThrough 46 lv [] hp r h9) → df_K o G0 gO b ((n : Int) - 1) hq → hq[na_seatsOf]? = some (.inl (nr_seatsOf, 6, .inl gS)) → px_find 0 lv2 = some (.ref 69) → px_find 1 lv2 = some (.int d) → px_find 2 lv2 = some (.int on2) → px_find 3 lv2 = some (.int (Int32.ofNat i)) → (on2 = 0 ∨ on2 = 1) → (n = 0 → on2 = 0) → px_fr gt_ws df_wa hp hq → ((∃ hp' : px_H, px_Z nm_T none nm_P mm_M_goesThrough 46 lv [] hp (some (.int 0)) hp' ∧ ab_h nm_GH hp' ∧ px_fr gt_ws df_wa hp hp') ∨     (∃ (lv' : List (Nat × Value)) (hp' : px_H) (on' : Int32), (∀ (r : Option Value) (h9 : px_H), px_Z nm_T none nm_P mm_M_goesThrough 89 lv' [] hp' r h9 → px_Z nm_T none nm_P mm_M_goesThrough 46 lv [] hp r h9) ∧ df_K o G0 gO b ((n : Int) - 1) hp' ∧ hp'[na_seatsOf]? = some (.inl (nr_seatsOf, 6, .inl gS)) ∧ px_find 0 lv' = some (.ref 69) ∧ px_find 1 lv' = some (.int d) ∧ px_find 2 lv' = some (.int on') ∧ (on' = 0 ∨ on' = 1) ∧ (n = 0 → on' = 0) ∧ px_fr gt_ws df_wa hp hp')) := by
      intro lv2 hq on2 hz hKq hSq k0 k1 k2 k3 hon2 hn2 hfq
      have step : ∀ (r : Option Value) (h9 : px_H), px_Z nm_T none nm_P mm_M_goesThrough 46 (px_st1 lv2 3 (.int (Int32.ofNat (i + 1)))) [] hq r h9 → px_Z nm_T none nm_P mm_M_goesThrough 46 lv [] hp r h9 := by
        intro r h9 h
        refine hz _ _ ?_
        refine px_q_iinc (len := 3) (j := 3) (n := 1) rfl k3 rfl ?_
        rw [e1]
        exact px_Z_its (pc1 := 46) (lv1 := px_st1 lv2 3 (.int (Int32.ofNat (i + 1)))) (st1 := []) (hp1 := hq) 1 (fun _ _ _ _ => rfl) h
      rcases ih (px_st1 lv2 3 (.int (Int32.ofNat (i + 1)))) hq (i + 1) on2 hKq hSq (px_st1_nr k0) (px_st1_ne k1) (ab_sto1_find k2 (by decide) (fun _ hc => by cases hc)) (px_st1_at _ _ _) hon2 hn2 (by omega) (by omega) with ⟨hp', z1, z2, z3⟩ | ⟨lv', hp', on', z1, z2, z3, z4, z5, z6, z7, z8, z9⟩
      · exact Or.inl ⟨hp', step _ _ z1, z2, px_fr_tr hfq z3⟩
      · exact Or.inr ⟨lv', hp', on', fun r h9 h => step _ _ (z1 _ _ h), z2, z3, z4, z5, z6, z7, z8, px_fr_tr hfq z9⟩
    rcases hr01 with rfl | rfl
    rotate_left
    · exact nxt lv hp1 on (fun r h9 h => pre _ _ (px_q_if (bb := true) (len := 3) (c := .ne) (off := 16) rfl (by decide) h)) hK1 hS1 l0 l1 l2 l3 hon hn0 hfr1
    obtain ⟨hw0, -⟩ := hr0 rfl
    rw [hgw] at hw0
    have hci := hcount i hil
    obtain ⟨r, hp2, q1, q2, q3, q4⟩ := df_C hK1 d0 d5 hbo b0 b1 hb hil (by omega) hw0 (by omega)
    have hfr2 : px_fr gt_ws df_wa hp hp2 := px_fr_tr hfr1 (px_fr_mono q4 (by decide) (by decide))
    have hw1 : 1 ≤ (nm_bg b (o i)).toInt := by
      have : (nm_bg b (o i)).toInt ≠ 0 := fun h => hw0 (by rw [← Int32.toInt_inj, h, Int32.toInt_zero])
      omega
    have hb10 := nm_bc_10 _ hw1 hwb.2
    have pre2 : ∀ (r9 : Option Value) (h9 : px_H), px_Z nm_T none nm_P mm_M_goesThrough 78 (px_st1 lv 2 (.int 1)) [.int r] hp2 r9 h9 → px_Z nm_T none nm_P mm_M_goesThrough 46 lv [] hp r9 h9 := by
      intro r9 h9 h
      refine pre _ _ ?_
      refine px_q_if (bb := false) (len := 3) (c := .ne) (off := 16) rfl (by decide) ?_
      refine px_Z_its (pc1 := 72) (lv1 := px_st1 lv 2 (.int 1)) (st1 := []) (hp1 := hp1) 2 (fun _ _ _ _ => rfl) ?_
      refine px_q_aln (len := 1) (j := 0) rfl (px_st1_nr l0) ?_
      refine px_q_iln (len := 1) (j := 3) rfl (ab_sto1_find l3 (by decide) (fun _ hc => by cases hc)) ?_
      refine px_q_iln (len := 1) (j := 1) rfl (ab_sto1_find l1 (by decide) (fun _ hc => by cases hc)) ?_
      exact px_q_virt (len := 3) (n := 2) (a := 69) (N := mm_M_drawsFrom) (mi := mi_M_drawsFrom) (ci := 9) rfl rfl rfl hx1 rfl (Nat.le_of_ble_eq_true rfl) (Nat.le_of_ble_eq_true rfl) rfl rfl q1 h
    rcases q2 with rfl | rfl
    · refine Or.inl ⟨hp2, pre2 _ _ ?_, q3.1, hfr2⟩
      refine px_q_if (bb := false) (len := 3) (c := .ne) (off := 5) rfl (by decide) ?_
      refine px_Z_its (pc1 := 82) (lv1 := px_st1 lv 2 (.int 1)) (st1 := [.int 0]) (hp1 := hp2) 1 (fun _ _ _ _ => rfl) ?_
      exact px_q_iret (len := 1) (ty := .boolean) rfl rfl rfl
    · exact nxt (px_st1 lv 2 (.int 1)) hp2 1 (fun r h9 h => pre2 _ _ (px_q_if (bb := true) (len := 3) (c := .ne) (off := 5) rfl (by decide) h)) q3 (q4.1 na_seatsOf _ (by decide) hS1) (px_st1_nr l0) (ab_sto1_find l1 (by decide) (fun _ hc => by cases hc)) (px_st1_at _ _ _) (ab_sto1_find l3 (by decide) (fun _ hc => by cases hc)) (Or.inr rfl) (fun h => by omega) hfr2
