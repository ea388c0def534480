/-! run: what isOver answers -/
section nm_ru
variable {hp : px_H} {fs : List Value}
theorem nm_f (hG : ab_h nm_GH hp) (hx : hp[69]? = some (.inr (9, fs))) {k d : Nat} (h : ac_f1 nm_GH 9 k 69 = some (2, 0, 0, [d])) : fs[k]? = some (.ref d) := ac_refF hG h hx
theorem nm_ixR (d : Int32) (n : Nat) (h0 : 0 ≤ d.toInt) (h1 : d.toInt < n) : px_inR d n = true := by
  simp only [px_inR, Bool.and_eq_true, decide_eq_true_eq]
  exact ⟨h0, h1⟩
theorem nm_over (hG : ab_h nm_GH hp) (hx : hp[69]? = some (.inr (9, fs))) {gB gO gS : Nat → Int32} {sv d bo : Int32} (hB : hp[na_inBag]? = some (.inl (nr_inBag, 2, .inl gB))) (hO : hp[na_bagOf]? = some (.inl (nr_bagOf, 6, .inl gO))) (hS : hp[na_seatsOf]? = some (.inl (nr_seatsOf, 6, .inl gS))) (hs : fs[nf_sitting]? = some (.int sv)) (d0 : 0 ≤ d.toInt) (d5 : d.toInt ≤ 5) (hbo : gO d.toNatClampNeg = bo) (b0 : 0 ≤ bo.toInt) (b1 : bo.toInt ≤ 1) :
    ∃ r : Int32, px_C nm_T nm_P mi_M_isOver [.ref 69, .int d] hp (some (.int r)) hp ∧ (r = 0 ∨ r = 1) ∧ (r = 0 → gB bo.toNatClampNeg ≠ 0 ∧ nm_bc sv ≠ gS d.toNatClampNeg) := by
  have iO : px_inR d 6 = true := nm_ixR d 6 d0 (by omega)
  have iB : px_inR bo 2 = true := nm_ixR bo 2 b0 (by omega)
  have head : ∀ r : Int32, px_Z nm_T none nm_P mm_M_isOver 11 [(0, .ref 69), (1, .int d)] [.int (gB bo.toNatClampNeg)] hp (some (.int r)) hp → px_C nm_T nm_P mi_M_isOver [.ref 69, .int d] hp (some (.int r)) hp := by
    intro r h
    refine px_C_of (N := mm_M_isOver) rfl (Nat.le_of_ble_eq_true rfl) ?_
    refine px_Z_its (pc1 := 1) (lv1 := [(0, .ref 69), (1, .int d)]) (st1 := [.ref 69]) (hp1 := hp) 1 (fun _ _ _ _ => rfl) ?_
    refine px_q_get (len := 3) (ci := 9) (k := nf_inBag) (fs := fs) (v := .ref na_inBag) rfl rfl hx (nm_f hG hx rfl) ?_
    refine px_Z_its (pc1 := 5) (lv1 := [(0, .ref 69), (1, .int d)]) (st1 := [.ref 69, .ref na_inBag]) (hp1 := hp) 1 (fun _ _ _ _ => rfl) ?_
    refine px_q_get (len := 3) (ci := 9) (k := nf_bagOf) (fs := fs) (v := .ref na_bagOf) rfl rfl hx (nm_f hG hx rfl) ?_
    refine px_Z_its (pc1 := 9) (lv1 := [(0, .ref 69), (1, .int d)]) (st1 := [.int d, .ref na_bagOf, .ref na_inBag]) (hp1 := hp) 1 (fun _ _ _ _ => rfl) ?_
    refine px_q_iald (len := 1) rfl hO rfl iO ?_
    rw [hbo]
    refine px_q_iald (len := 1) rfl hB rfl iB ?_
    exact h
  have one : px_Z nm_T none nm_P mm_M_isOver 30 [(0, .ref 69), (1, .int d)] [] hp (some (.int 1)) hp := by
    refine px_Z_its (pc1 := 35) (lv1 := [(0, .ref 69), (1, .int d)]) (st1 := [.int 1]) (hp1 := hp) 2 (fun _ _ _ _ => rfl) ?_
    exact px_q_iret (len := 1) (ty := .boolean) rfl rfl rfl
  by_cases hw : gB bo.toNatClampNeg = 0
  · refine ⟨1, head 1 ?_, Or.inr rfl, fun h => absurd h (by decide)⟩
    exact px_q_if (bb := true) (len := 3) (c := .eq) (off := 19) rfl (by simp only [px_cmp, hw, decide_true]) one
  · have mid : ∀ r : Int32, px_Z nm_T none nm_P mm_M_isOver 27 [(0, .ref 69), (1, .int d)] [.int (gS d.toNatClampNeg), .int (nm_bc sv)] hp (some (.int r)) hp → px_C nm_T nm_P mi_M_isOver [.ref 69, .int d] hp (some (.int r)) hp := by
      intro r h
      refine head r ?_
      refine px_q_if (bb := false) (len := 3) (c := .eq) (off := 19) rfl (by simp only [px_cmp, hw, decide_false]) ?_
      refine px_Z_its (pc1 := 15) (lv1 := [(0, .ref 69), (1, .int d)]) (st1 := [.ref 69]) (hp1 := hp) 1 (fun _ _ _ _ => rfl) ?_
      refine px_q_get (len := 3) (ci := 9) (k := nf_sitting) (fs := fs) (v := .int sv) rfl rfl hx hs ?_
      refine px_q_stat (len := 3) (n := 1) (N := mm_I_bitCount) (mi := mi_I_bitCount) rfl rfl rfl (Nat.le_of_ble_eq_true rfl) (Nat.le_of_ble_eq_true rfl) rfl rfl (nm_bc_C sv hp) ?_
      refine px_Z_its (pc1 := 22) (lv1 := [(0, .ref 69), (1, .int d)]) (st1 := [.ref 69, .int (nm_bc sv)]) (hp1 := hp) 1 (fun _ _ _ _ => rfl) ?_
      refine px_q_get (len := 3) (ci := 9) (k := nf_seatsOf) (fs := fs) (v := .ref na_seatsOf) rfl rfl hx (nm_f hG hx rfl) ?_
      refine px_Z_its (pc1 := 26) (lv1 := [(0, .ref 69), (1, .int d)]) (st1 := [.int d, .ref na_seatsOf, .int (nm_bc sv)]) (hp1 := hp) 1 (fun _ _ _ _ => rfl) ?_
      refine px_q_iald (len := 1) rfl hS rfl iO ?_
      exact h
    by_cases hc : nm_bc sv = gS d.toNatClampNeg
    · refine ⟨1, mid 1 ?_, Or.inr rfl, fun h => absurd h (by decide)⟩
      exact px_q_icmp (bb := false) (len := 3) (c := .ne) (off := 7) rfl (by simp [px_cmp, hc]) one
    · refine ⟨0, mid 0 ?_, Or.inl rfl, fun _ => ⟨hw, hc⟩⟩
      refine px_q_icmp (bb := true) (len := 3) (c := .ne) (off := 7) rfl (by simp [px_cmp, hc]) ?_
      refine px_Z_its (pc1 := 35) (lv1 := [(0, .ref 69), (1, .int d)]) (st1 := [.int 0]) (hp1 := hp) 1 (fun _ _ _ _ => rfl) ?_
      exact px_q_iret (len := 1) (ty := .boolean) rfl rfl rfl
end nm_ru
