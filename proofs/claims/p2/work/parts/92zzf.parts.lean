/-! goesThrough: parts -/
theorem pa_C0 {o : Nat → Int64} {Gt : Int32} {gO gS : Nat → Int32} {b : Nat} {c : Int} {d bo : Int32} {hp : px_H} (hK : pa_K 0 o Gt gO gS b c hp) (d0 : 0 ≤ d.toInt) (d5 : d.toInt ≤ 5) (hbo : gO d.toNatClampNeg = bo) (b0 : 0 ≤ bo.toInt) (b1 : bo.toInt ≤ 1) (hb : bo.toNatClampNeg = b) (hG3 : Gt.toInt ≤ 3000) (hcount : ∀ e : Nat, (e : Int) < Gt.toInt → (nm_bc (nm_bg b (o e))).toInt ≤ c) :
    ∃ (r : Int32) (hp' : px_H), px_C nm_T nm_P mi_M_parts [.ref 69, .int (Int32.ofNat 0), .int d] hp (some (.int r)) hp' ∧ (r = 0 ∨ r = 1) ∧ pa_K 0 o Gt gO gS b c hp' ∧ px_fr pa_ws df_wa hp hp' := by
  obtain ⟨r, hp', z1, z2, z3, z4⟩ := pa_loop (by decide) d0 d5 hbo b0 b1 hb hG3 hcount 3001 [(3, .int (Int32.ofNat 0)), (0, .ref 69), (1, .int (Int32.ofNat 0)), (2, .int d)] hp 0 hK rfl rfl rfl rfl (by decide) (by decide)
  refine ⟨r, hp', px_C_of (N := mm_M_parts) rfl (Nat.le_of_ble_eq_true rfl) ?_, z2, z3, z4⟩
  refine px_Z_its (pc1 := 2) (lv1 := [(0, .ref 69), (1, .int (Int32.ofNat 0)), (2, .int d)]) (st1 := [.int 1, .int (Int32.ofNat 0)]) (hp1 := hp) 2 (fun _ _ _ _ => rfl) ?_
  refine px_q_icmp (bb := true) (len := 3) (c := .ne) (off := 8) rfl (by decide) ?_
  exact px_Z_its (pc1 := 12) (lv1 := [(3, .int (Int32.ofNat 0)), (0, .ref 69), (1, .int (Int32.ofNat 0)), (2, .int d)]) (st1 := []) (hp1 := hp) 2 (fun _ _ _ _ => rfl) z1
theorem pa_C1 {o : Nat → Int64} {Gt : Int32} {gO gS : Nat → Int32} {b : Nat} {c : Int} {d bo : Int32} {hp : px_H} (hG : ab_h nm_GH hp) (h2 : nm_HI 2 hp) (hT : nm_TE 1 (fun e v => v = o e) hp) (hs : ∃ g : Nat → Int32, hp[na_size]? = some (.inl (nr_size, 3, .inl g)) ∧ g 1 = Gt) (hO : hp[na_bagOf]? = some (.inl (nr_bagOf, 6, .inl gO))) (hS : hp[na_seatsOf]? = some (.inl (nr_seatsOf, 6, .inl gS))) (d0 : 0 ≤ d.toInt) (d5 : d.toInt ≤ 5) (hbo : gO d.toNatClampNeg = bo) (b0 : 0 ≤ bo.toInt) (b1 : bo.toInt ≤ 1) (hb : bo.toNatClampNeg = b) (hG3 : Gt.toInt ≤ 3000) (hcount : ∀ e : Nat, (e : Int) < Gt.toInt → (nm_bc (nm_bg b (o e))).toInt ≤ c) :
    ∃ (r : Int32) (hp' : px_H), px_C nm_T nm_P mi_M_parts [.ref 69, .int (Int32.ofNat 1), .int d] hp (some (.int r)) hp' ∧ (r = 0 ∨ r = 1) ∧ pa_K 1 o Gt gO gS b c hp' ∧ px_fr pa_ws df_wa hp hp' := by
  obtain ⟨fs, hx, -, -⟩ := ac_obj hG (c := 69) rfl
  obtain ⟨hp1, e1, e2, e3, e4, e5, e6, e7, e8⟩ := nm_empt hG (tn := 0) (by decide)
  obtain ⟨g, hg, hg1⟩ := hs
  obtain ⟨g', j1, j2⟩ := e8 g hg
  have hK : pa_K 1 o Gt gO gS b c hp1 := by
    refine ⟨e2, fun t ht hu => ?_, e7 1 _ (by decide) hT, e6 _, ⟨g', j1, by rw [j2 1 (by decide)]; exact hg1⟩, e3.1 _ _ (by decide) hO, e3.1 _ _ (by decide) hS⟩
    match t, ht, hu with
    | 0, _, _ => exact e4
    | 2, _, _ => exact e5 2 (by decide) h2
    | 1, _, hu => exact absurd rfl hu
    | t + 3, ht, _ => omega
  obtain ⟨r, hp', z1, z2, z3, z4⟩ := pa_loop (by decide) d0 d5 hbo b0 b1 hb hG3 hcount 3001 [(3, .int (Int32.ofNat 0)), (0, .ref 69), (1, .int (Int32.ofNat 1)), (2, .int d)] hp1 0 hK rfl rfl rfl rfl (by decide) (by decide)
  refine ⟨r, hp', px_C_of (N := mm_M_parts) rfl (Nat.le_of_ble_eq_true rfl) ?_, z2, z3, px_fr_tr (px_fr_mono e3 (by decide) (by decide)) z4⟩
  refine px_Z_its (pc1 := 2) (lv1 := [(0, .ref 69), (1, .int (Int32.ofNat 1)), (2, .int d)]) (st1 := [.int 1, .int (Int32.ofNat 1)]) (hp1 := hp) 2 (fun _ _ _ _ => rfl) ?_
  refine px_q_icmp (bb := false) (len := 3) (c := .ne) (off := 8) rfl (by decide) ?_
  refine px_Z_its (pc1 := 7) (lv1 := [(0, .ref 69), (1, .int (Int32.ofNat 1)), (2, .int d)]) (st1 := [.int (Int32.ofNat 0), .ref 69]) (hp1 := hp) 2 (fun _ _ _ _ => rfl) ?_
  refine px_q_virt (len := 3) (n := 1) (a := 69) (N := mm_M_empties) (mi := mi_M_empties) (ci := 9) rfl rfl rfl hx rfl (Nat.le_of_ble_eq_true rfl) (Nat.le_of_ble_eq_true rfl) rfl rfl e1 ?_
  exact px_Z_its (pc1 := 12) (lv1 := [(3, .int (Int32.ofNat 0)), (0, .ref 69), (1, .int (Int32.ofNat 1)), (2, .int d)]) (st1 := []) (hp1 := hp1) 2 (fun _ _ _ _ => rfl) z1
