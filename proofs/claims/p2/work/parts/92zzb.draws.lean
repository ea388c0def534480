/-! goesThrough: drawsFrom -/
set_option maxHeartbeats 4000000 in
theorem df_C {o : Nat → Int64} {G0 : Int32} {gO : Nat → Int32} {b i : Nat} {c : Int} {d bo : Int32} {hp : px_H} (hK : df_K o G0 gO b c hp) (d0 : 0 ≤ d.toInt) (d5 : d.toInt ≤ 5) (hbo : gO d.toNatClampNeg = bo) (b0 : 0 ≤ bo.toInt) (b1 : bo.toInt ≤ 1) (hb : bo.toNatClampNeg = b) (hi : (i : Int) < G0.toInt) (hi3 : i < 3000) (hw0 : nm_bg b (o i) ≠ 0) (hwc : (nm_bc (nm_bg b (o i))).toInt ≤ c + 1) :
    ∃ (r : Int32) (hp' : px_H), px_C nm_T nm_P mi_M_drawsFrom [.ref 69, .int (Int32.ofNat i), .int d] hp (some (.int r)) hp' ∧ (r = 0 ∨ r = 1) ∧ df_K o G0 gO b c hp' ∧ px_fr df_ws df_wa hp hp' := by
  have hK0 := hK
  obtain ⟨hG, hH, hT0, hT1, ⟨g, hg, hg0⟩, hO⟩ := hK
  obtain ⟨fs, hx, -, -⟩ := ac_obj hG (c := 69) rfl
  have hT0' := hT0
  obtain ⟨gq, o1, s1, s2, s3⟩ := hT0'
  rw [hg] at s1
  cases s1
  have ho1 : o1 (0 * 3001 + i) = o i := s3 i (by rw [hg0]; exact hi)
  obtain ⟨hp1, gB, c1, c2, c3, c4, c5⟩ := nm_looks hG s2 (tn := 0) (e := i) (by decide) (by omega)
  have hK1 : df_K o G0 gO b c hp1 := df_K_fr c3 c2 (by decide) (by decide) (by decide) (by decide) hK0
  have hb2 : b < 2 := by rw [← hb]; unfold Int32.toNatClampNeg; omega
  have hgw : gB bo.toNatClampNeg = nm_bg b (o i) := by rw [hb, c5 b hb2, ho1]
  obtain ⟨gB', hB', bB⟩ := ac_arrI c2 (c := na_inBag) (t := nr_inBag) (n := 2) (lo := 0) (hi := 1023) (Nat.le_of_ble_eq_true rfl) rfl
  rw [c4] at hB'
  cases hB'
  have hwb := bB bo.toNatClampNeg (by rw [hb]; exact hb2)
  rw [hgw] at hwb
  generalize hwd : nm_bg b (o i) = w at hw0 hwc hgw hwb
  have hw1 : 1 ≤ w.toInt := by
    have : w.toInt ≠ 0 := fun h => hw0 (by rw [← Int32.toInt_inj, h, Int32.toInt_zero])
    omega
  have hb10 := nm_bc_10 w hw1 hwb.2
  have hcz : (nm_bc w).toInt64 ≠ 0 := by
    intro h
    have h2 := congrArg Int64.toInt h
    rw [Int32.toInt_toInt64] at h2
    have : (0 : Int64).toInt = 0 := rfl
    omega
  obtain ⟨fs1, hx1, -, -⟩ := ac_obj c2 (c := 69) rfl
  obtain ⟨ds, hds⟩ := nm_fJ c2 hx1 (k := nf_drawnSum) (a := -9223372036854775808) (b := 9223372036854775807) rfl
  obtain ⟨pt, hpt, -⟩ := ac_arrL c2 (c := na_part) (t := nr_part) (n := 9003) (Nat.le_of_ble_eq_true rfl) rfl
  have hkd : nf_drawnSum < fs1.length := (List.getElem?_eq_some_iff.mp hds).1
  have hG2 : ab_h nm_GH (hp1.set 69 (.inr (9, fs1.set nf_drawnSum (.long (ds + pt i))))) := nm_h_obj c2 hx1 (f := (1, -9223372036854775808, 9223372036854775807, [])) (fun FS h => by cases h; rfl) ⟨rfl, ab_i64 _⟩
  have hf2 : px_fr [(69, nf_drawnSum)] [] hp1 (hp1.set 69 (.inr (9, fs1.set nf_drawnSum (.long (ds + pt i))))) := px_fr_obj hx1 (by decide)
  have hK2 := df_K_fr hf2 hG2 (by decide) (by decide) (by decide) (by decide) hK1
  obtain ⟨r, hp', z1, z2, z3, z4⟩ := df_loop (pt := pt i) d0 d5 hbo b0 b1 hb hi hi3 hwd hwb.1 hwb.2 hwc hcz 20 [(7, .int 0), (5, .long (pt i)), (4, .int (nm_bc w)), (3, .int w), (0, .ref 69), (1, .int (Int32.ofNat i)), (2, .int d)] _ 0 hK2 rfl rfl rfl rfl rfl rfl rfl (by decide) (by decide) (by decide)
  refine ⟨r, hp', ?_, z2, z3, px_fr_tr (px_fr_tr (px_fr_mono c3 (by decide) (by decide)) (px_fr_mono hf2 (by decide) (by decide))) z4⟩
  have hin := nm_inR i 9003 (by omega) (by decide)
  have hcl := nm_ofNat_clamp i (by omega)
  refine px_C_of (N := mm_M_drawsFrom) rfl (Nat.le_of_ble_eq_true rfl) ?_
  refine px_Z_its (pc1 := 3) (lv1 := [(0, .ref 69), (1, .int (Int32.ofNat i)), (2, .int d)]) (st1 := [.int (Int32.ofNat i), .int (Int32.ofNat 0), .ref 69]) (hp1 := hp) 3 (fun _ _ _ _ => rfl) ?_
  refine px_q_virt (len := 3) (n := 2) (a := 69) (N := mm_M_looksAt) (mi := mi_M_looksAt) (ci := 9) rfl rfl rfl hx rfl (Nat.le_of_ble_eq_true rfl) (Nat.le_of_ble_eq_true rfl) rfl rfl c1 ?_
  refine px_Z_its (pc1 := 7) (lv1 := [(0, .ref 69), (1, .int (Int32.ofNat i)), (2, .int d)]) (st1 := [.ref 69]) (hp1 := hp1) 1 (fun _ _ _ _ => rfl) ?_
  refine px_q_get (len := 3) (ci := 9) (k := nf_inBag) (fs := fs1) (v := .ref na_inBag) rfl rfl hx1 (nm_f c2 hx1 rfl) ?_
  refine px_Z_its (pc1 := 11) (lv1 := [(0, .ref 69), (1, .int (Int32.ofNat i)), (2, .int d)]) (st1 := [.ref 69, .ref na_inBag]) (hp1 := hp1) 1 (fun _ _ _ _ => rfl) ?_
  refine px_q_get (len := 3) (ci := 9) (k := nf_bagOf) (fs := fs1) (v := .ref na_bagOf) rfl rfl hx1 (nm_f c2 hx1 rfl) ?_
  refine px_Z_its (pc1 := 15) (lv1 := [(0, .ref 69), (1, .int (Int32.ofNat i)), (2, .int d)]) (st1 := [.int d, .ref na_bagOf, .ref na_inBag]) (hp1 := hp1) 1 (fun _ _ _ _ => rfl) ?_
  refine px_q_iald (len := 1) rfl hK1.2.2.2.2.2 rfl (nm_ixR d 6 d0 (by omega)) ?_
  rw [hbo]
  refine px_q_iald (len := 1) rfl c4 rfl (nm_ixR bo 2 b0 (by omega)) ?_
  rw [hgw]
  refine px_Z_its (pc1 := 19) (lv1 := [(3, .int w), (0, .ref 69), (1, .int (Int32.ofNat i)), (2, .int d)]) (st1 := [.int w]) (hp1 := hp1) 2 (fun _ _ _ _ => rfl) ?_
  refine px_q_stat (len := 3) (n := 1) (N := mm_I_bitCount) (mi := mi_I_bitCount) rfl rfl rfl (Nat.le_of_ble_eq_true rfl) (Nat.le_of_ble_eq_true rfl) rfl rfl (nm_bc_C w hp1) ?_
  refine px_Z_its (pc1 := 25) (lv1 := [(4, .int (nm_bc w)), (3, .int w), (0, .ref 69), (1, .int (Int32.ofNat i)), (2, .int d)]) (st1 := [.ref 69]) (hp1 := hp1) 2 (fun _ _ _ _ => rfl) ?_
  refine px_q_get (len := 3) (ci := 9) (k := nf_part) (fs := fs1) (v := .ref na_part) rfl rfl hx1 (nm_f c2 hx1 rfl) ?_
  refine px_Z_its (pc1 := 31) (lv1 := [(4, .int (nm_bc w)), (3, .int w), (0, .ref 69), (1, .int (Int32.ofNat i)), (2, .int d)]) (st1 := [.int (0 + Int32.ofNat i), .ref na_part]) (hp1 := hp1) 3 (fun _ _ _ _ => rfl) ?_
  rw [Int32.zero_add]
  refine px_q_lald (len := 1) rfl hpt rfl hin ?_
  rw [hcl]
  refine px_Z_its (pc1 := 36) (lv1 := [(5, .long (pt i)), (4, .int (nm_bc w)), (3, .int w), (0, .ref 69), (1, .int (Int32.ofNat i)), (2, .int d)]) (st1 := [.ref 69, .ref 69]) (hp1 := hp1) 3 (fun _ _ _ _ => rfl) ?_
  refine px_q_get (len := 3) (ci := 9) (k := nf_drawnSum) (fs := fs1) (v := .long ds) rfl rfl hx1 hds ?_
  refine px_Z_its (pc1 := 42) (lv1 := [(5, .long (pt i)), (4, .int (nm_bc w)), (3, .int w), (0, .ref 69), (1, .int (Int32.ofNat i)), (2, .int d)]) (st1 := [.long (ds + pt i), .ref 69]) (hp1 := hp1) 2 (fun _ _ _ _ => rfl) ?_
  refine px_q_putf (len := 3) (ci := 9) (k := nf_drawnSum) (fs := fs1) rfl rfl hx1 hkd rfl rfl rfl rfl ?_
  exact px_Z_its (pc1 := 48) (lv1 := [(7, .int 0), (5, .long (pt i)), (4, .int (nm_bc w)), (3, .int w), (0, .ref 69), (1, .int (Int32.ofNat i)), (2, .int d)]) (st1 := []) 2 (fun _ _ _ _ => rfl) z1
