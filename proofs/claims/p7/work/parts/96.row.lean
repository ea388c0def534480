/-! the law's call of row where it answers -/
theorem nm_xin {hp : px_H} {fs : List Value} {sz i : Int32} {t n : Nat} {f : Nat → Int64} (hx0 : hp[0]? = some (.inr (8, fs))) (h9 : fs[9]? = some (.ref 48)) (h48 : hp[48]? = some (.inr (2, [.ref 49, .int sz]))) (h49 : hp[49]? = some (.inl (t, n, .inr (.inl f)))) (ht : nm_T.1[t]? = some .long) (h0 : 0 ≤ i.toInt) (h1 : i.toInt < sz.toInt) (h2 : sz.toInt ≤ n) :
    px_C nm_T nm_P mi_X_row [.ref 0, .int i] hp (some (.long (f i.toNatClampNeg))) hp := by
  refine px_C_of (N := mm_X_row) rfl (Nat.le_of_ble_eq_true rfl) ?_
  refine px_Z_its (pc1 := 1) (lv1 := [(0, .ref 0), (1, .int i)]) (st1 := [.int i]) (hp1 := hp) 1 (fun _ _ _ _ => rfl) ?_
  refine px_q_if (bb := false) (len := 3) (c := .lt) (off := 14) rfl ?_ ?_
  · simp only [px_cmp, decide_eq_false_iff_not, Int32.lt_iff_toInt_lt, Int32.toInt_zero]
    omega
  refine px_Z_its (pc1 := 6) (lv1 := [(0, .ref 0), (1, .int i)]) (st1 := [.ref 0, .int i]) (hp1 := hp) 2 (fun _ _ _ _ => rfl) ?_
  refine px_q_get (len := 3) (idx := 63) (ci := 8) (k := 9) (fl := 3) (fs := fs) (v := .ref 48) rfl rfl hx0 h9 ?_
  refine px_q_get (len := 3) (idx := 210) (ci := 2) (k := 1) (fl := 0) (fs := [.ref 49, .int sz]) (v := .int sz) rfl rfl h48 rfl ?_
  refine px_q_icmp (bb := true) (len := 3) (c := .lt) (off := 11) rfl ?_ ?_
  · simp only [px_cmp, decide_eq_true_eq, Int32.lt_iff_toInt_lt]
    omega
  refine px_Z_its (pc1 := 24) (lv1 := [(0, .ref 0), (1, .int i)]) (st1 := [.ref 0]) (hp1 := hp) 1 (fun _ _ _ _ => rfl) ?_
  refine px_q_get (len := 3) (idx := 63) (ci := 8) (k := 9) (fl := 3) (fs := fs) (v := .ref 48) rfl rfl hx0 h9 ?_
  refine px_q_get (len := 3) (idx := 351) (ci := 2) (k := 0) (fl := 3) (fs := [.ref 49, .int sz]) (v := .ref 49) rfl rfl h48 rfl ?_
  refine px_Z_its (pc1 := 31) (lv1 := [(0, .ref 0), (1, .int i)]) (st1 := [.int i, .ref 49]) (hp1 := hp) 1 (fun _ _ _ _ => rfl) ?_
  refine px_q_lald (len := 1) rfl h49 ht ?_ ?_
  · simp only [px_inR, Bool.and_eq_true, decide_eq_true_eq]
    omega
  exact px_q_lret (len := 1) rfl rfl
section nm_r3
variable {l : Launch} {base b : Nat} {D : va_G} {dA : Nat → ClassId}
set_option maxHeartbeats 4000000 in
set_option maxRecDepth 1000000 in
theorem nm_lin {hp : px_H} {fs : List Value} {i : Int32} {x : Int64} {t5 : Nat} {g : Nat → Int64} (hC : px_C nm_T nm_P mi_X_row [.ref 0, .int i] hp (some (.long x)) hp) (hx0 : hp[0]? = some (.inr (8, fs))) (h105 : hp[105]? = some (.inl (t5, 1, .inr (.inl g)))) (ht5 : nm_T.1[t5]? = some .long) :
    Met l nm_ly nm_lws (px_rm nm_lrow0) (nm_rPc base b D dA [.ref 0, .int i, .ref 105] hp) (px_Qc base b D nm_cl dA (some (.int 0)) (hp.set 105 (.inl (t5, 1, .inr (.inl (vp_updL g 0 x)))))) 0 0 (fun q => base ≤ q) := by
  refine va_MetW (cc := px_by nm_lrow0) (maxL := 4) (ret := some .int) (hh := nm_lhh) (by decide) rfl ?_
  intro p e s m args below meth c s₁ B hml hv
  obtain ⟨rfl, hR, hK, hE, hbase, hNx, hU, hN⟩ := hv
  have hts := atoms_spec (ws := nm_lws) B.pre
  have hall : ∀ w ∈ nm_ALL, w ∈ nm_lws := fun w hw => List.mem_cons_of_mem _ hw
  have hown := findClass_of_methodNamed B.named
  have hl := lv_entry (([.ref 0, .int i, .ref 105] : List Value).map (px_tr base b)) (n := 4) (by rw [px_lg_sl]; exact Nat.le_of_ble_eq_true rfl)
  rw [lg_entry_eq]
  generalize (lg_sl (([.ref 0, .int i, .ref 105] : List Value).map (px_tr base b)) ++ List.replicate (4 - (lg_sl (([.ref 0, .int i, .ref 105] : List Value).map (px_tr base b))).length) Slot.unset).toArray = ls at hl ⊢
  rw [px_lv_args] at hl
  obtain ⟨n0, hn0⟩ := hC
  generalize hhp : hp.set 105 (.inl (t5, 1, .inr (.inl (vp_updL g 0 x)))) = hp'
  have its := nm_GW_its (Q := MQ below (px_Qc base b D nm_cl dA (some (.int 0)) hp') (([.ref 0, .int i, .ref 105] : List Value).map (px_tr base b)).toArray s 0 0 (fun q => base ≤ q)) (below := below) (l := l) (e := e) (b := b) (M := nm_lrow0) B.exec B.bytes hml hown hts hK hE (name_of_methodNamed B.named B.method).1 nm_wd_lrow0 hall hbase n0
  refine (?_ : nm_GW p l e (px_rm nm_lrow0) s m (([.ref 0, .int i, .ref 105] : List Value).map (px_tr base b)).toArray below meth c (MQ below (px_Qc base b D nm_cl dA (some (.int 0)) hp') (([.ref 0, .int i, .ref 105] : List Value).map (px_tr base b)).toArray s 0 0 (fun q => base ≤ q)) base b D dA 4 (0, [(0, .ref 0), (1, .int i), (2, .ref 105)], [], hp, 0, 0)) s.heap [] ls hR va_S.rf hl
  refine its 4 _ (4, [(0, .ref 0), (1, .int i), (2, .ref 105)], [.int i, .ref 0, .int 0, .ref 105], hp, 0, 0) rfl ?_
  refine its 1 _ (7, [(0, .ref 0), (1, .int i), (2, .ref 105)], [.long x, .int 0, .ref 105], hp, 0, 0) ?_ ?_
  · simp only [px_its]
    rw [px_i_virt (T := nm_T) (X := none) (P := nm_P) (M := nm_lrow0) (st := [.int i, .ref 0, .int 0, .ref 105]) (len := 3) (idx := 7) (mi := mi_X_row) (n := 1) (a := 0) (ci := 8) (N := mm_X_row) rfl rfl rfl hx0 rfl (Nat.le_of_ble_eq_true rfl) (Nat.le_of_ble_eq_true rfl) rfl rfl (hn0 n0 (Nat.le_refl _)) (Nat.le_of_ble_eq_true rfl) (Nat.le_of_ble_eq_true rfl)]
    rfl
  refine its 1 _ (8, [(0, .ref 0), (1, .int i), (2, .ref 105)], [], hp', 0, 0) ?_ ?_
  · have f7 : px_find 7 (px_cd nm_lrow0) = some (1, .lastore) := rfl
    have hj : px_inR (0 : Int32) 1 = true := by decide
    simp only [px_its, px_step, f7, px_alu, px_ast, h105, ht5, hj, Option.map_some, ← hhp]
    rfl
  refine its 2 _ (15, [(0, .ref 0), (1, .int i), (2, .ref 105)], [.int 0], hp', 0, 0) rfl ?_
  intro H1 locs1 ls1 hR1 hS1 hl1
  have hd9 : decode (px_by nm_lrow0) 15 = .ok (.ireturn, 1) := by decide +kernel
  exact W.iret (cc := px_by nm_lrow0) B.exec B.bytes B.returns (fun t2 ht2 hW2 => ⟨rfl, by rw [ht2]; exact hR1, by rw [ht2]; exact hS1.1, fun q h1 h2 => by rw [ht2]; exact hS1.2.1 q h1 h2⟩) hS1.2.2 hd9
end nm_r3
section nm_r4
variable {p : Program} {l : Launch} {e : Env} {s : State} {m : MethodId} {below : List Frame} {meth : Method} {c : Code} {b L : Nat} {xs : Nat → Int32} {D : va_G} {dA : Nat → ClassId}
set_option maxHeartbeats 4000000 in
set_option maxRecDepth 1000000 in
theorem nm_row_in (C0 : lw_At p s m meth c b L xs) (hK : va_K D nm_cl (px_tys nm_T dA) s) {hp : px_H} {fs : List Value} {i : Int32} {nc ns : Nat} {lv : List (Nat × Value)} {x : Int64} {t5 : Nat} {g : Nat → Int64} (hC : px_C nm_T nm_P mi_X_row [.ref 0, .int i] hp (some (.long x)) hp) (hx0 : hp[0]? = some (.inr (8, fs))) (h105 : hp[105]? = some (.inl (t5, 1, .inr (.inl g)))) (ht5 : nm_T.1[t5]? = some .long)
    (hnc : nc ≤ nm_rc) (hns : ns ≤ nm_rs) (h : nm_G p l e s m below meth c b D dA (nm_rpc + 3, lv, [.int 0], hp.set 105 (.inl (t5, 1, .inr (.inl (vp_updL g 0 x)))), nc, ns)) : nm_G p l e s m below meth c b D dA (nm_rpc, lv, [.ref 105, .int i, .ref 0], hp, nc, ns) := by
  obtain ⟨hx, hb, hr, hml, hown, hts, hX, hbl, hlocks, hgv⟩ := C0
  have hE := nm_Ex hts
  have hfl := flat_of_before _ hgv
  have hU : vx_Zq Bundle.tN "UNASSIGNED_STACK" Bundle.steD (fun q => s.heap.size ≤ q) s s.heap := nm_Zq (hts _ (nm_x4 _ List.mem_cons_self)) (hts _ (nm_x3 (Cond.initialized Bundle.tN) (by decide +kernel)).1) (hfl _ (by decide +kernel))
  have hN : vx_Zq Bundle.tN "SUPPRESSED_SENTINEL" Bundle.listD (fun q => s.heap.size ≤ q) s s.heap := nm_Zq (hts _ (nm_x4 _ (List.mem_cons_of_mem _ List.mem_cons_self))) (hts _ (nm_x3 (Cond.initialized Bundle.tN) (by decide +kernel)).1) (hfl _ (by decide +kernel))
  intro H locs ls hR hS hl
  show W p l e room_1 s m #[Value.ref b] below meth c H locs nc ns (lw_Z below #[Value.ref b] s) (F0 m nm_rpc ls (([.ref 105, .int i, .ref 0] : List Value).map (px_tr s.heap.size b)))
  have hd1 : decode code nm_rpc = .ok (.invokestatic nm_rix, 3) := by decide +kernel
  have hG : GoodIn lw_tbl (va_wsS "NamesInBagsLaw" nm_rix nm_ly nm_lws) := by
    intro w hw
    have h1 : w ∈ lw_tbl ∧ goodWord w = true := by
      rcases List.mem_append.mp hw with h | h
      · simp only [List.mem_cons, List.not_mem_nil, or_false] at h
        rcases h with rfl | rfl | rfl
        · exact nm_x3 _ (by decide +kernel)
        · exact nm_x3 _ (by decide +kernel)
        · exact nm_x3 _ (by decide +kernel)
      · rcases List.mem_cons.mp h with rfl | h
        · exact nm_x3 _ (by decide +kernel)
        · exact List.mem_filter.mp h
    exact ⟨h1.1, good_of_word h1.2⟩
  have hrun := vx_runSW (p := p) (e := e) (below := below) (meth := meth) (H := H) (locs := locs) (cells := nc) (slots := ns) (R := room_1) (g := F0 m nm_rpc ls (([.ref 105, .int i, .ref 0] : List Value).map (px_tr s.heap.size b))) (As := ([.ref 0, .int i, .ref 105] : List Value).map (px_tr s.heap.size b)) (rest := []) (own := "NamesInBagsLaw") (index := nm_rix) (cc := code) (nL := 8)
    ⟨hx, hb, hml, hown, hts⟩ (nm_lin (l := l) (base := s.heap.size) (b := b) (D := D) (dA := dA) hC hx0 h105 ht5) (vx_cwSW 3 hts hG rfl rfl rfl (by decide) (by decide))
    ⟨nm_rBlind s.heap.size b D dA _ hp, fun U hUH hW => ⟨rfl, by rw [hUH]; exact hR, va_K.moved hW.alike hK, px_Ex.moved nm_isX hW hE, by rw [hUH]; exact hS.1, nm_Nx.moved hW (nm_Nx.of hts),
      by rw [hUH]; exact vx_Zq.moved hW.alike (hU.kept hS.2.1), by rw [hUH]; exact vx_Zq.moved hW.alike (hN.kept hS.2.1)⟩⟩ rfl rfl hl.1 rfl (lv_room (by decide)) hd1 ⟨hnc, hns⟩
  refine px_W_call hrun hS (fun st o t _ h => h.2.2) (fun v st2 t locs1 e1 hQ hS1 => ?_)
  obtain ⟨ev, hR1, -⟩ := hQ
  cases ev
  exact h t.heap locs1 ls hR1 hS1 hl
end nm_r4
