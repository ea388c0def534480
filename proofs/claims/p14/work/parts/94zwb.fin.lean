/-! RLz behind calls, by frames -/
section sy_FE
variable {z dn nx ln : Nat} {hX hM hX' hM' : px_H} {W W' : Nat → Nat → Bool} {V V' : Nat → Bool}
/-- the rule is another -/
theorem RLz_kr {ln' : Nat} (a : fz W V hX hX') (b : fz W' V' hM hM') (ha : nX W V [(1, 0), (1, 8), (19, 0), (19, 1), (19, 2), (0, 11), (0, 14), (66, 0), (66, 1), (66, 2), (67, 0), (67, 1), (67, 2), (68, 0), (68, 1), (68, 2)] [2, 3, 4, 5, 6, 7, 8, 9, 10, 11, 52] = true) (hb : nX W' V' [(69, 3), (69, 11), (69, 15), (69, 20), (69, 31), (69, 32), (69, 33), (69, 37)] [71, 72, 73, 74, 75, 76, 77, 78, 79, 80, 88, 89, 90, 100, 101, 102, 103, 104] = true) (h : RLz z dn nx ln hX hM) (hr : RR0 ln' hX' hM') : RLz z dn nx ln' hX' hM' := by
  obtain ⟨h1, h2, h3, h4, ⟨h5, h6, h7⟩, h8, ⟨h9, h10⟩, h11⟩ := h
  refine ⟨TR_k a b (nX_sub ha (by decide) (by decide)) (nX_sub hb (by decide) (by decide)) h1, fun p hp hq => by rw [(a.2 3 (nX_a ha (by decide))).1]; exact h2 p hp hq, hr, CL_k a b (nX_sub ha (by decide) (by decide)) (nX_sub hb (by decide) (by decide)) h4, ⟨h5, by rw [fz_gI a (nX_f ha (by decide))]; exact h6, by rw [fz_gI b (nX_f hb (by decide))]; exact h7⟩, ?_, ⟨by rw [fz_gI b (nX_f hb (by decide))]; exact h9, by rw [fz_gI b (nX_f hb (by decide))]; exact h10⟩, KP_k a b (nX_sub ha (by decide) (by decide)) (nX_sub hb (by decide) (by decide)) h11⟩
  rw [fz_gI a (nX_f ha (by decide)), fz_gI b (c := 69) (k := 37) (nX_f hb (by decide))]
  exact h8
/-- a drawing is done -/
theorem RLz_run (a : fz W V hX hX') (b : fz W' V' hM hM') (ha : nX W V [(1, 0), (1, 8), (14, 3), (0, 14), (66, 0), (66, 1), (66, 2), (67, 0), (67, 1), (67, 2), (68, 0), (68, 1), (68, 2)] [2, 3, 4, 5, 6, 7, 8, 9, 10, 11, 15, 16, 17, 52] = true) (hb : nX W' V' [(69, 3), (69, 11), (69, 15), (69, 20)] [71, 72, 73, 74, 75, 76, 77, 78, 79, 80, 81, 83, 84, 100, 101, 102, 103, 104] = true) (h : RLz z dn nx ln hX hM) (hd : nx < dn) (hr : RP z nx hX' hM') : RLz z dn (nx + 1) ln hX' hM' := by
  obtain ⟨h1, h2, h3, h4, ⟨h5, h6, h7⟩, h8, ⟨h9, h10⟩, h11⟩ := h
  obtain ⟨r1, r2, r3, r4⟩ := hr
  have d6 := h1.2.1
  exact ⟨TR_k a b (nX_sub ha (by decide) (by decide)) (nX_sub hb (by decide) (by decide)) h1, fun p hp hq => by rw [(a.2 3 (nX_a ha (by decide))).1]; exact h2 p hp hq, RR0_k a b (nX_sub ha (by decide) (by decide)) (nX_sub hb (by decide) (by decide)) h3, r1, ⟨by omega, r3, r2⟩, r4, ⟨by rw [fz_gI b (nX_f hb (by decide))]; exact h9, by rw [fz_gI b (nX_f hb (by decide))]; exact h10⟩, KP_k a b (nX_sub ha (by decide) (by decide)) (nX_sub hb (by decide) (by decide)) h11⟩
/-- debts are others -/
theorem RLz_debt (a : fz W V hX hX') (b : fz W' V' hM hM') (ha : nX W V [(1, 0), (1, 8), (14, 3), (19, 0), (19, 1), (19, 2), (0, 11), (0, 14), (66, 0), (66, 1), (66, 2), (67, 0), (67, 1), (67, 2), (68, 0), (68, 1), (68, 2)] [2, 4, 5, 6, 7, 8, 9, 10, 11, 15, 16, 17, 52] = true) (hb : nX W' V' [(69, 3), (69, 11), (69, 15), (69, 20), (69, 31), (69, 32), (69, 33), (69, 37)] [71, 73, 74, 75, 76, 77, 78, 79, 80, 81, 83, 84, 88, 89, 90, 100, 101, 102, 103, 104] = true) (h : RLz z dn nx ln hX hM) (hr : ∀ p, p < 10 → aI hX' 3 p = aI hM' 72 p ∧ (z ≤ p → aI hX' 3 p = Int32.ofInt 0)) : RLz z dn nx ln hX' hM' := by
  obtain ⟨h1, h2, h3, h4, ⟨h5, h6, h7⟩, h8, ⟨h9, h10⟩, h11⟩ := h
  refine ⟨?_, fun p hp hq => (hr p hq).2 hp, RR0_k a b (nX_sub ha (by decide) (by decide)) (nX_sub hb (by decide) (by decide)) h3, CL_k a b (nX_sub ha (by decide) (by decide)) (nX_sub hb (by decide) (by decide)) h4, ⟨h5, by rw [fz_gI a (nX_f ha (by decide))]; exact h6, by rw [fz_gI b (nX_f hb (by decide))]; exact h7⟩, ?_, ⟨by rw [fz_gI b (nX_f hb (by decide))]; exact h9, by rw [fz_gI b (nX_f hb (by decide))]; exact h10⟩, KP_k a b (nX_sub ha (by decide) (by decide)) (nX_sub hb (by decide) (by decide)) h11⟩
  · unfold TR at h1 ⊢
    rw [fz_gI a (c := 1) (k := 0) (nX_f ha (by decide)), fz_gI a (c := 1) (k := 8) (nX_f ha (by decide)), fz_gI b (c := 69) (k := 3) (nX_f hb (by decide)), fz_gI b (c := 69) (k := 11) (nX_f hb (by decide)), (a.2 2 (nX_a ha (by decide))).1, (a.2 4 (nX_a ha (by decide))).1, (a.2 5 (nX_a ha (by decide))).1, (a.2 6 (nX_a ha (by decide))).1, (a.2 7 (nX_a ha (by decide))).1, (a.2 8 (nX_a ha (by decide))).1, (a.2 9 (nX_a ha (by decide))).1, (a.2 10 (nX_a ha (by decide))).1, (a.2 11 (nX_a ha (by decide))).1, (b.2 71 (nX_a hb (by decide))).1, (b.2 73 (nX_a hb (by decide))).1, (b.2 74 (nX_a hb (by decide))).1, (b.2 75 (nX_a hb (by decide))).1, (b.2 76 (nX_a hb (by decide))).1, (b.2 77 (nX_a hb (by decide))).1, (b.2 78 (nX_a hb (by decide))).1, (b.2 79 (nX_a hb (by decide))).1, (b.2 80 (nX_a hb (by decide))).1]
    obtain ⟨t1, t2, t3, t4, t5, t6, t7, t8, t9⟩ := h1
    exact ⟨t1, t2, t3, t4, t5, t6, fun p hp => ⟨(t7 p hp).1, (hr p hp).1, (t7 p hp).2.2.1, (t7 p hp).2.2.2⟩, t8, t9⟩
  · rw [fz_gI a (nX_f ha (by decide)), fz_gI b (c := 69) (k := 37) (nX_f hb (by decide))]
    exact h8
end sy_FE
/-! a text becomes a rule -/
section sy_FF
variable {hX hM hX' hM' : px_H}
theorem tb_t : (List.range 8).all (fun t => (List.range 3).all (fun i => decide (Int32.ofNat t ||| ((Int32.ofInt 1) <<< (Int32.ofNat i &&& 31)) = Int32.ofNat (t ||| (1 <<< i))) && (decide (t ||| (1 <<< i) < 8) && (List.range 3).all (fun j => decide ((t ||| (1 <<< i)).testBit j = (t.testBit j || Nat.beq j i)))))) = true := by decide +kernel
theorem tb {t i : Nat} (ht : t < 8) (hi : i < 3) : Int32.ofNat t ||| ((Int32.ofInt 1) <<< (Int32.ofNat i &&& 31)) = Int32.ofNat (t ||| (1 <<< i)) ∧ t ||| (1 <<< i) < 8 ∧ ∀ j, j < 3 → (t ||| (1 <<< i)).testBit j = (t.testBit j || Nat.beq j i) := by
  have := List.all_eq_true.mp (List.all_eq_true.mp tb_t t (List.mem_range.mpr ht)) i (List.mem_range.mpr hi)
  simp only [Bool.and_eq_true, decide_eq_true_eq, List.all_eq_true] at this
  exact ⟨this.1, this.2.1, fun j hj => this.2.2 j (List.mem_range.mpr hj)⟩
/-- a rule beside that is not read -/
theorem RB_keep {rc r i : Nat} (hi : i < 3) (hr : r ≠ 1 + i) (c1 : Wri rc (54 + 4 * i) 3 = false) (c2 : Vrc rc (54 + 4 * i + 1) = false) (c3 : Vrc rc (54 + 4 * i + 2) = false) (c4 : Vrc rc (54 + 4 * i + 3) = false) (a : fz (Wri rc) (Vrc rc) hX hX') (e1 : ∀ j, j ≠ r → aI hM' 81 j = aI hM 81 j) (e3 : ∀ j, ¬ (7 * r ≤ j ∧ j < 7 * r + 7) → aI hM' 83 j = aI hM 83 j ∧ aI hM' 84 j = aI hM 84 j) (h : RB i hX hM) : RB i hX' hM' := by
  obtain ⟨ln, l7, g1, g2, g3⟩ := h
  refine ⟨ln, l7, (fz_gI a c1).trans g1, by rw [e1 _ (by omega)]; exact g2, fun k hk => ?_⟩
  rw [(a.2 _ c2).1, (a.2 _ c3).1, (a.2 _ c4).1, (e3 (7 * (1 + i) + k) (by omega)).1, (e3 (7 * (1 + i) + k) (by omega)).2]
  exact g3 k hk
theorem RB_read {i c : Nat} (c7 : c ≤ 7) (g1 : gI hX' (54 + 4 * i) 3 = Int32.ofNat c) (g2 : aI hM' 81 = upd (aI hM 81) (1 + i) (Int32.ofNat c)) (g3 : ∀ k, k < c → kR (aI hX' (54 + 4 * i + 1) k) (aI hX' (54 + 4 * i + 2) k) (aI hM' 83 (7 * (1 + i) + k)) ∧ fR (aI hX' (54 + 4 * i + 3) k) (aI hM' 84 (7 * (1 + i) + k))) : RB i hX' hM' :=
  ⟨c, c7, g1, by rw [g2, upd_eq, if_pos rfl], g3⟩
theorem w_14 : nX (Wri 14) (Vrc 14) [(1, 0), (1, 8), (19, 0), (19, 1), (19, 2), (0, 11), (0, 14), (66, 0), (66, 1), (66, 2), (67, 0), (67, 1), (67, 2), (68, 0), (68, 1), (68, 2)] [2, 3, 4, 5, 6, 7, 8, 9, 10, 11, 52] = true := by decide
theorem w_ru : nX Wru Vru [(69, 3), (69, 11), (69, 15), (69, 20), (69, 31), (69, 32), (69, 33), (69, 37)] [71, 72, 73, 74, 75, 76, 77, 78, 79, 80, 88, 89, 90, 100, 101, 102, 103, 104] = true := by decide
theorem w_ot : (List.range 3).all (fun i => nX (Wri (54 + 4 * i)) (Vrc (54 + 4 * i)) [(1, 0), (1, 8), (14, 3), (19, 0), (19, 1), (19, 2), (0, 11), (0, 14), (0, 4), (66, 0), (66, 1), (66, 2), (67, 0), (67, 1), (67, 2), (68, 0), (68, 1), (68, 2)] [2, 3, 4, 5, 6, 7, 8, 9, 10, 11, 13, 15, 16, 17, 52]) = true := by decide
theorem sim_rule (oX : oS hX) (oM : oS hM) (hR : FD hX hM) : ∃ (v : Int32) (hX' hM' : px_H), fn_X_rule hX = some (v, hX') ∧ fn_M_rule hM = some (v, hM') ∧ (∃ z dn nx ln, RLz z dn nx ln hX' hM') ∧ DY hM' ∧ TX hX' hM' ∧ RO hX' hM' := by
  obtain ⟨⟨z, dn, nx, ln, hL⟩, hK, hD, ⟨n, n4, t1, t2, t3⟩, hO, t, t8, tt, tb9⟩ := hR
  have hL1 := RLz_thr hL oM
  obtain ⟨o1, f1⟩ := vl_thr oM
  have t2' : gI (wF hM 69 0 (.int (Int32.ofInt 0))) 69 22 = Int32.ofNat n := (fz_gI f1 rfl).trans t2
  have ee : ∀ c, aI (wF hM 69 0 (.int (Int32.ofInt 0))) c = aI hM c := fun _ => aI_wF
  unfold fn_X_rule fn_M_rule
  simp only [sb]
  generalize wF hM 69 0 (.int (Int32.ofInt 0)) = m1 at o1 hL1 t2' ee ⊢
  obtain ⟨v, hX', hM', e1, e2, oX', oM', fX, fM, x0, m0, alt⟩ := sim_reads (rc := 14) (r := 0) (by decide) (by omega) oX o1 n4 t1 t2' (fun i hi => by rw [ee]; exact t3 i hi)
  have e2 : fn_M_readsRule (Int32.ofInt 0) m1 = some (v, hM') := e2
  rw [e1, e2]
  have T2 : TX hX' hM' := ⟨0, by omega, x0, m0, fun i hi => by rw [(fX.2 13 rfl).1, (fM.2 85 rfl).1, ee]; exact t3 i hi⟩
  have D2 : DY hM' := fun d hd => by rw [(fM.2 78 rfl).1, ee]; exact hD d hd
  have L2 : ∀ ln', RR0 ln' hX' hM' → RLz z dn nx ln' hX' hM' := fun ln' hr => RLz_kr fX fM w_14 w_ru hL1 hr
  have x4 : gI hX' 0 4 = Int32.ofNat t := (fz_gI fX rfl).trans tt
  have O2 : (∀ j, j ≠ 0 → aI hM' 81 j = aI m1 81 j ∧ aI hM' 82 j = aI m1 82 j) → (∀ j, ¬ (7 * 0 ≤ j ∧ j < 7 * 0 + 7) → aI hM' 83 j = aI m1 83 j ∧ aI hM' 84 j = aI m1 84 j) → RO hX' hM' := by
    intro q1 q3
    have q0 : ∀ i, i < 3 → RB i hX m1 := fun i hi => by
      have := hO i hi
      unfold RB at this ⊢
      rw [ee, ee, ee]
      exact this
    refine ⟨fun i hi => ?_, t, t8, x4, fun i hi => by rw [(q1 (1 + i) (by omega)).2, ee]; exact tb9 i hi⟩
    match i, hi with
    | 0, _ => exact RB_keep (rc := 14) (r := 0) (by omega) (by omega) rfl rfl rfl rfl fX (fun j hj => (q1 j hj).1) q3 (q0 0 (by omega))
    | 1, _ => exact RB_keep (rc := 14) (r := 0) (by omega) (by omega) rfl rfl rfl rfl fX (fun j hj => (q1 j hj).1) q3 (q0 1 (by omega))
    | 2, _ => exact RB_keep (rc := 14) (r := 0) (by omega) (by omega) rfl rfl rfl rfl fX (fun j hj => (q1 j hj).1) q3 (q0 2 (by omega))
    | i + 3, h => omega
  refine ⟨v, hX', hM', rfl, rfl, ?_, D2, T2, ?_⟩
  · rcases alt with ⟨-, c, c7, -, g1, g2, -, g3, -⟩ | ⟨-, fT, g1, g2, g3, g4⟩
    · refine ⟨z, dn, nx, c, L2 c ⟨c7, g1, by rw [g2, upd_eq, if_pos rfl], fun k hk => ?_⟩⟩
      have := g3 k hk
      rw [show 7 * 0 + k = k from by omega] at this
      exact this
    · refine ⟨z, dn, nx, ln, L2 ln ?_⟩
      have h3 := hL1.2.2.1
      unfold RR0 at h3 ⊢
      rw [fz_gI fT (c := 14) (k := 3) rfl, (fT.2 15 rfl).1, (fT.2 16 rfl).1, (fT.2 17 rfl).1, g1, g3, g4]
      exact h3
  · rcases alt with ⟨-, c, c7, -, g1, g2, g2', g3, g4⟩ | ⟨-, fT, g1, g2, g3, g4⟩
    · exact O2 (fun j hj => by rw [g2, g2', upd_eq, upd_eq, if_neg hj, if_neg hj]; exact ⟨rfl, rfl⟩) g4
    · exact O2 (fun j _ => by rw [g1, g2]; exact ⟨rfl, rfl⟩) (fun j _ => by rw [g3, g4]; exact ⟨rfl, rfl⟩)
theorem tx_0 {n : Nat} (n4 : n ≤ 40) : decide (0 ≤ (Int32.ofInt 0).toInt ∧ (Int32.ofInt 0).toInt ≤ (n : Int)) = true := decide_eq_true ⟨by decide, by rw [show (Int32.ofInt 0).toInt = 0 from by decide]; omega⟩
theorem RB_thr {i : Nat} {m1 : px_H} (ee : ∀ c, aI m1 c = aI hM c) (h : RB i hX hM) : RB i hX m1 := by
  unfold RB at h ⊢
  rw [ee, ee, ee]
  exact h
theorem sim_other (oX : oS hX) (oM : oS hM) (hR : FD hX hM) (a : Int32) : ∃ (v : Int32) (hX' hM' : px_H), fn_X_other a hX = some (v, hX') ∧ fn_M_other a hM = some (v, hM') ∧ (∃ z dn nx ln, RLz z dn nx ln hX' hM') ∧ DY hM' ∧ TX hX' hM' ∧ RO hX' hM' := by
  obtain ⟨⟨z, dn, nx, ln, hL⟩, hK, hD, ⟨n, n4, t1, t2, t3⟩, hO, t, t8, tt, tb9⟩ := hR
  have hL1 := RLz_thr hL oM
  obtain ⟨o1, f1⟩ := vl_thr oM
  have t2' : gI (wF hM 69 0 (.int (Int32.ofInt 0))) 69 22 = Int32.ofNat n := (fz_gI f1 rfl).trans t2
  have ee : ∀ c, aI (wF hM 69 0 (.int (Int32.ofInt 0))) c = aI hM c := fun _ => aI_wF
  have e3 : sx_in a.toInt64 (Int64.ofNat 0) (Int64.ofInt 2) = b01 (inN a 3) := by
    rw [b01_in, Int32.toInt_toInt64, i64c.1, i64c.2.2.1]
    unfold inN
    congr 1
    simp only [decide_eq_decide]
    omega
  unfold fn_X_other fn_M_other
  simp only [sb]
  generalize wF hM 69 0 (.int (Int32.ofInt 0)) = m1 at o1 hL1 t2' ee ⊢
  rw [e3, cmp_b01n, lt0, cmp_lt, show (Int32.ofInt 3).toInt = 3 from by decide]
  cases hb : inN a 3 with
  | false =>
    have hb2 : ¬ (0 ≤ a.toInt ∧ a.toInt < 3) := of_decide_eq_false hb
    have hC : fn_Text_cut (Int32.ofInt 0) hX = some (Int32.ofInt 1, wF hX 12 1 (.int (Int32.ofInt 0))) := by
      rw [tx_cut oX n4 t1, tx_0 n4, cond_true]
    have fX : fz Wtx V0 hX (wF hX 12 1 (.int (Int32.ofInt 0))) := fz_wF rfl
    have fM : fz Wtm V0 m1 (wF m1 69 22 (.int (Int32.ofInt 0))) := fz_wF rfl
    have L2 : RLz z dn nx ln (wF hX 12 1 (.int (Int32.ofInt 0))) (wF m1 69 22 (.int (Int32.ofInt 0))) := RLz_k fX fM (by decide) (by decide) hL1
    have T2 : TX (wF hX 12 1 (.int (Int32.ofInt 0))) (wF m1 69 22 (.int (Int32.ofInt 0))) := ⟨0, by omega, gI_wF (cs := [12]) (ci := 5) rfl List.mem_cons_self oX, gI_wF (cs := [69]) (ci := 9) rfl List.mem_cons_self o1, fun i hi => by rw [aI_wF, aI_wF, ee]; exact t3 i hi⟩
    have D2 : DY (wF m1 69 22 (.int (Int32.ofInt 0))) := fun d hd => by rw [aI_wF, ee]; exact hD d hd
    have O2 : RO (wF hX 12 1 (.int (Int32.ofInt 0))) (wF m1 69 22 (.int (Int32.ofInt 0))) := RO_k fX fM (by decide) (by decide) rfl ⟨fun i hi => RB_thr ee (hO i hi), t, t8, tt, fun i hi => by rw [ee]; exact tb9 i hi⟩
    rw [hC, Option.bind_some, cond_false]
    by_cases h0 : a.toInt < 0
    · rw [decide_eq_true h0, cond_true]
      exact ⟨_, _, _, rfl, rfl, ⟨z, dn, nx, ln, L2⟩, D2, T2, O2⟩
    · rw [decide_eq_false h0, cond_false, decide_eq_false (show ¬ a.toInt < 3 by omega), cond_false]
      exact ⟨_, _, _, rfl, rfl, ⟨z, dn, nx, ln, L2⟩, D2, T2, O2⟩
  | true =>
    obtain ⟨i, i3, rfl⟩ := inN_t hb
    have hti := nm_ofNat_toInt i (by omega)
    rw [cond_true, hti, decide_eq_false (show ¬ (i : Int) < 0 by omega), cond_false, decide_eq_true (show (i : Int) < 3 by omega), cond_true, nm_inR i 3 i3 (by omega), cond_true, nm_ofNat_clamp i (by omega), hK.2 i i3]
    have hrc : 54 + 4 * i ∈ rcl := by
      match i, i3 with
      | 0, _ => decide
      | 1, _ => decide
      | 2, _ => decide
      | i + 3, h => omega
    obtain ⟨v, hX', hM', e1, e2, oX', oM', fX, fM, x0, m0, alt⟩ := sim_reads (rc := 54 + 4 * i) (r := 1 + i) hrc (by omega) oX o1 n4 t1 t2' (fun i hi => by rw [ee]; exact t3 i hi)
    have e2 : fn_M_readsRule (Int32.ofInt 1 + Int32.ofNat i) m1 = some (v, hM') := by
      rw [show Int32.ofInt 1 = Int32.ofNat 1 from rfl, ← Int32.ofNat_add]
      exact e2
    rw [e1, e2, Option.bind_some, Option.bind_some]
    have wX := List.all_eq_true.mp w_ot i (List.mem_range.mpr i3)
    have T2 : TX hX' hM' := ⟨0, by omega, x0, m0, fun j hj => by rw [(fX.2 13 (nX_a wX (by decide))).1, (fM.2 85 rfl).1, ee]; exact t3 j hj⟩
    have D2 : DY hM' := fun d hd => by rw [(fM.2 78 rfl).1, ee]; exact hD d hd
    have x4 : gI hX' 0 4 = Int32.ofNat t := (fz_gI fX (nX_f wX (by decide))).trans tt
    have q0 : ∀ j, j < 3 → RB j hX m1 := fun j hj => RB_thr ee (hO j hj)
    have KB : (∀ j, j ≠ 1 + i → aI hM' 81 j = aI m1 81 j) → (∀ j, ¬ (7 * (1 + i) ≤ j ∧ j < 7 * (1 + i) + 7) → aI hM' 83 j = aI m1 83 j ∧ aI hM' 84 j = aI m1 84 j) → ∀ j, j < 3 → j ≠ i → RB j hX' hM' := by
      intro q1 q3 j hj hne
      have cc : Wri (54 + 4 * i) (54 + 4 * j) 3 = false ∧ Vrc (54 + 4 * i) (54 + 4 * j + 1) = false ∧ Vrc (54 + 4 * i) (54 + 4 * j + 2) = false ∧ Vrc (54 + 4 * i) (54 + 4 * j + 3) = false := by
        match i, i3, j, hj, hne with
        | 0, _, 1, _, _ => decide
        | 0, _, 2, _, _ => decide
        | 1, _, 0, _, _ => decide
        | 1, _, 2, _, _ => decide
        | 2, _, 0, _, _ => decide
        | 2, _, 1, _, _ => decide
        | 0, _, 0, _, h => exact absurd rfl h
        | 1, _, 1, _, h => exact absurd rfl h
        | 2, _, 2, _, h => exact absurd rfl h
        | i + 3, h, _, _, _ => omega
        | _, _, j + 3, h, _ => omega
      exact RB_keep hj (by omega) cc.1 cc.2.1 cc.2.2.1 cc.2.2.2 fX q1 q3 (q0 j hj)
    have RR : (∀ j, j ≠ 1 + i → aI hM' 81 j = aI m1 81 j) → (∀ j, ¬ (7 * (1 + i) ≤ j ∧ j < 7 * (1 + i) + 7) → aI hM' 83 j = aI m1 83 j ∧ aI hM' 84 j = aI m1 84 j) → RR0 ln hX' hM' := by
      intro q1 q3
      obtain ⟨l7, h1, h2, h3⟩ := hL1.2.2.1
      refine ⟨l7, (fz_gI fX (nX_f wX (by decide))).trans h1, by rw [q1 0 (by omega)]; exact h2, fun k hk => ?_⟩
      rw [(fX.2 15 (nX_a wX (by decide))).1, (fX.2 16 (nX_a wX (by decide))).1, (fX.2 17 (nX_a wX (by decide))).1, (q3 k (by omega)).1, (q3 k (by omega)).2]
      exact h3 k hk
    rcases alt with ⟨hv, c, c7, -, g1, g2, g2', g3, g4⟩ | ⟨hv, fT, g1, g2, g3, g4⟩
    · rw [hv, cond_false]
      have q1 : ∀ j, j ≠ 1 + i → aI hM' 81 j = aI m1 81 j := fun j hj => by rw [g2, upd_eq, if_neg hj]
      obtain ⟨b1, b2, b3⟩ := tb t8 i3
      have L2 := RLz_kr fX fM (nX_sub wX (by decide) (by decide)) w_ru hL1 (RR q1 g4)
      have fY : fz (fun a k => Nat.beq a 0 && Nat.beq k 4) V0 hX' (wF hX' 0 4 (.int (gI hX' 0 4 ||| ((Int32.ofInt 1) <<< (Int32.ofNat i &&& 31))))) := fz_wF rfl
      have B2 : ∀ j, j < 3 → RB j hX' hM' := fun j hj => by
        by_cases hne : j = i
        · subst hne
          exact RB_read c7 g1 g2 g3
        · exact KB q1 g4 j hj hne
      refine ⟨v, _, hM', rfl, rfl, ⟨z, dn, nx, ln, RLz_k fY (fz_rf (W := W0) (V := V0)) (by decide) (by decide) L2⟩, D2, TX_k fY (fz_rf (W := W0) (V := V0)) (by decide) (by decide) T2, fun j hj => ?_, t ||| (1 <<< i), b2, ?_, fun j hj => ?_⟩
      · match j, hj with
        | 0, _ => exact RB_k (by omega) fY (fz_rf (W := W0) (V := V0)) rfl rfl rfl rfl (by decide) (B2 0 (by omega))
        | 1, _ => exact RB_k (by omega) fY (fz_rf (W := W0) (V := V0)) rfl rfl rfl rfl (by decide) (B2 1 (by omega))
        | 2, _ => exact RB_k (by omega) fY (fz_rf (W := W0) (V := V0)) rfl rfl rfl rfl (by decide) (B2 2 (by omega))
        | j + 3, h => omega
      · rw [gI_wF (cs := [0]) (ci := 8) rfl List.mem_cons_self oX', x4, b1]
      · rw [g2', upd_eq, b3 j hj, ee]
        by_cases hne : j = i
        · subst hne
          rw [if_pos rfl, Nat.beq_refl, Bool.or_true]
          rfl
        · rw [if_neg (by omega), tb9 j hj, show Nat.beq j i = false from by
            cases hq : Nat.beq j i with
            | false => rfl
            | true => exact absurd (Nat.eq_of_beq_eq_true hq) hne, Bool.or_false]
    · rw [hv, cond_true]
      have q1 : ∀ j, j ≠ 1 + i → aI hM' 81 j = aI m1 81 j := fun j _ => by rw [g1]
      have q3 : ∀ j, ¬ (7 * (1 + i) ≤ j ∧ j < 7 * (1 + i) + 7) → aI hM' 83 j = aI m1 83 j ∧ aI hM' 84 j = aI m1 84 j := fun j _ => by rw [g3, g4]; exact ⟨rfl, rfl⟩
      refine ⟨v, hX', hM', rfl, rfl, ⟨z, dn, nx, ln, RLz_kr fX fM (nX_sub wX (by decide) (by decide)) w_ru hL1 (RR q1 q3)⟩, D2, T2, fun j hj => ?_, t, t8, x4, fun j hj => by rw [g2, ee]; exact tb9 j hj⟩
      by_cases hne : j = i
      · subst hne
        obtain ⟨ln', l7, r1, r2, r3⟩ := q0 j hj
        refine ⟨ln', l7, ?_, by rw [g1]; exact r2, fun k hk => ?_⟩
        · match j, hj with
          | 0, _ => exact (fz_gI fT rfl).trans r1
          | 1, _ => exact (fz_gI fT rfl).trans r1
          | 2, _ => exact (fz_gI fT rfl).trans r1
          | j + 3, h => omega
        · rw [(fT.2 _ rfl).1, (fT.2 _ rfl).1, (fT.2 _ rfl).1, g3, g4]
          exact r3 k hk
      · exact KB q1 q3 j hj hne
end sy_FF
