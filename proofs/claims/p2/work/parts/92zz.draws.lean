/-! goesThrough: drawsFrom, the loop -/
theorem px_q_ll {T : px_T} {X : Option (Nat × (Nat → Int32))} {P : List px_M} {M : px_M} {pc len j : Nat} {lv : List (Nat × Value)} {st : List Value} {hp hp' : px_H} {r : Option Value} {a : Int64} (hf : px_find pc (px_cd M) = some (len, .lload j)) (hv : px_find j lv = some (.long a)) (hR : px_Z T X P M (pc + len) lv (.long a :: st) hp r hp') : px_Z T X P M pc lv st hp r hp' :=
  px_Z_its 1 (fun call N0 nc ns => by simp only [px_its, px_step, hf, px_alu, hv]) hR
theorem px_q_ldiv {T : px_T} {X : Option (Nat × (Nat → Int32))} {P : List px_M} {M : px_M} {pc len : Nat} {lv : List (Nat × Value)} {st : List Value} {hp hp' : px_H} {r : Option Value} {x y : Int64} (hf : px_find pc (px_cd M) = some (len, .ldiv)) (hy : y ≠ 0) (hR : px_Z T X P M (pc + len) lv (.long (x / y) :: st) hp r hp') : px_Z T X P M pc lv (.long y :: .long x :: st) hp r hp' :=
  px_Z_its 1 (fun call N0 nc ns => by simp only [px_its, px_step, hf, px_alu, px_llz, if_neg hy]) hR
abbrev df_ws : List (Nat × Nat) := [(69, nf_putBy), (69, nf_sitting), (69, nf_drawnSum), (69, nf_vainSum)]
abbrev df_wa : List Nat := [na_inBag, na_aside, na_satLast, na_one, na_other, na_part, na_size, na_hash]
/-- what drawsFrom stands on and keeps -/
def df_K (o : Nat → Int64) (G0 : Int32) (gO : Nat → Int32) (b : Nat) (c : Int) (hp : px_H) : Prop :=
  ab_h nm_GH hp ∧ (∀ t, t ≤ 2 → nm_HI t hp) ∧ nm_TE 0 (fun e v => v = o e) hp ∧ nm_TE 1 (fun _ v => (nm_bc (nm_bg b v)).toInt ≤ c) hp ∧ (∃ g : Nat → Int32, hp[na_size]? = some (.inl (nr_size, 3, .inl g)) ∧ g 0 = G0) ∧ hp[na_bagOf]? = some (.inl (nr_bagOf, 6, .inl gO))
theorem df_K_fr {o : Nat → Int64} {G0 : Int32} {gO : Nat → Int32} {b : Nat} {c : Int} {hp hp' : px_H} {ws : List (Nat × Nat)} {wa : List Nat} (h : px_fr ws wa hp hp') (hG : ab_h nm_GH hp') (h1 : na_size ∉ wa) (h2 : na_one ∉ wa) (h3 : na_hash ∉ wa) (h4 : na_bagOf ∉ wa) (hK : df_K o G0 gO b c hp) : df_K o G0 gO b c hp' := by
  obtain ⟨-, a2, a3, a4, ⟨g, a5, a6⟩, a7⟩ := hK
  exact ⟨hG, fun t ht => nm_HI_fr h h3 h1 (a2 t ht), nm_TE_fr h h1 h2 a3, nm_TE_fr h h1 h2 a4, ⟨g, h.1 _ _ h1 a5, a6⟩, h.1 _ _ h4 a7⟩
theorem nm_fJ {hp : px_H} {fs : List Value} (hG : ab_h nm_GH hp) (hx : hp[69]? = some (.inr (9, fs))) {k : Nat} {a b : Int} (h : ac_f1 nm_GH 9 k 69 = some (1, a, b, [])) : ∃ x : Int64, fs[k]? = some (.long x) := by
  obtain ⟨vs', v, e1, e2, e3, -⟩ := ac_f1_ok hG h
  rw [hx] at e1
  cases e1
  obtain ⟨x, rfl, hb⟩ := ab_f1 e3
  exact ⟨x, e2⟩
set_option maxHeartbeats 4000000 in
theorem df_loop {o : Nat → Int64} {G0 : Int32} {gO : Nat → Int32} {b i : Nat} {c : Int} {d bo w : Int32} {pt : Int64} (d0 : 0 ≤ d.toInt) (d5 : d.toInt ≤ 5) (hbo : gO d.toNatClampNeg = bo) (b0 : 0 ≤ bo.toInt) (b1 : bo.toInt ≤ 1) (hb : bo.toNatClampNeg = b) (hi : (i : Int) < G0.toInt) (hi3 : i < 3000) (hw : nm_bg b (o i) = w) (w0 : 0 ≤ w.toInt) (w1 : w.toInt ≤ 1023) (hwc : (nm_bc w).toInt ≤ c + 1) (hcz : (nm_bc w).toInt64 ≠ 0) :
    ∀ (m : Nat) (lv : List (Nat × Value)) (hp : px_H) (p : Int32), df_K o G0 gO b c hp → px_find 0 lv = some (.ref 69) → px_find 1 lv = some (.int (Int32.ofNat i)) → px_find 2 lv = some (.int d) → px_find 3 lv = some (.int w) → px_find 4 lv = some (.int (nm_bc w)) → px_find 5 lv = some (.long pt) → px_find 7 lv = some (.int p) → 0 ≤ p.toInt → p.toInt ≤ 10 → 10 - p.toInt < m →
    ∃ (r : Int32) (hp' : px_H), px_Z nm_T none nm_P mm_M_drawsFrom 48 lv [] hp (some (.int r)) hp' ∧ (r = 0 ∨ r = 1) ∧ df_K o G0 gO b c hp' ∧ px_fr df_ws df_wa hp hp' := by
  intro m
  induction m with
  | zero => intro lv hp p _ _ _ _ _ _ _ _ h1 h2 h3; omega
  | succ m ih =>
    intro lv hp p hK l0 l1 l2 l3 l4 l5 l7 p0 p10 hm
    obtain ⟨hG, hH, hT0, hT1, ⟨g, hg, hg0⟩, hO⟩ := hK
    obtain ⟨fs, hx, -, -⟩ := ac_obj hG (c := 69) rfl
    obtain ⟨ps, hps, ps0, ps9⟩ := nm_fI hG hx (k := nf_persons) (a := 0) (b := 10) rfl
    have head : ∀ (bb : Bool) (r : Option Value) (hp' : px_H), px_cmp .ge p ps = bb → px_Z nm_T none nm_P mm_M_drawsFrom (bif bb then 126 else 57) lv [] hp r hp' → px_Z nm_T none nm_P mm_M_drawsFrom 48 lv [] hp r hp' := by
      intro bb r hp' hc h
      refine px_q_il (len := 2) (j := 7) rfl l7 ?_
      refine px_q_aln (len := 1) (j := 0) rfl l0 ?_
      refine px_q_get (len := 3) (ci := 9) (k := nf_persons) (fs := fs) (v := .int ps) rfl rfl hx hps ?_
      refine px_q_icmp (bb := bb) (len := 3) (c := .ge) (off := 72) rfl hc ?_
      cases bb
      · exact h
      · exact h
    by_cases hpp : ps.toInt ≤ p.toInt
    · refine ⟨1, hp, head true _ _ ?_ ?_, Or.inr rfl, ⟨hG, hH, hT0, hT1, ⟨g, hg, hg0⟩, hO⟩, px_fr_rf _ _ _⟩
      · simp only [px_cmp, decide_eq_true_eq, ge_iff_le, Int32.le_iff_toInt_le]; exact hpp
      · refine px_Z_its (pc1 := 127) (lv1 := lv) (st1 := [.int 1]) (hp1 := hp) 1 (fun _ _ _ _ => rfl) ?_
        exact px_q_iret (len := 1) (ty := .boolean) rfl rfl rfl
    have hge : px_cmp .ge p ps = false := by simp only [px_cmp, decide_eq_false_iff_not, ge_iff_le, Int32.le_iff_toInt_le]; exact hpp
    have p1 : (p + Int32.ofInt 1).toInt = p.toInt + 1 := by
      rw [Int32.toInt_add, show (Int32.ofInt 1).toInt = 1 from by decide]
      apply Int.bmod_eq_of_le <;> omega
    have inc : ∀ hq : px_H, df_K o G0 gO b c hq → ∃ (r : Int32) (hp' : px_H), px_Z nm_T none nm_P mm_M_drawsFrom 120 lv [] hq (some (.int r)) hp' ∧ (r = 0 ∨ r = 1) ∧ df_K o G0 gO b c hp' ∧ px_fr df_ws df_wa hq hp' := by
      intro hq hKq
      obtain ⟨r, hp', z1, z2, z3, z4⟩ := ih (px_st1 lv 7 (.int (p + Int32.ofInt 1))) hq (p + Int32.ofInt 1) hKq (px_st1_nr l0) (px_st1_ne l1) (px_st1_ne l2) (px_st1_ne l3) (px_st1_ne l4) (ab_sto1_find l5 (by decide) (fun h => absurd h (by decide))) (px_st1_at _ _ _) (by omega) (by omega) (by omega)
      refine ⟨r, hp', ?_, z2, z3, z4⟩
      refine px_q_iinc (len := 3) (j := 7) (n := 1) rfl l7 rfl ?_
      exact px_Z_its (pc1 := 48) (lv1 := px_st1 lv 7 (.int (p + Int32.ofInt 1))) (st1 := []) (hp1 := hq) 1 (fun _ _ _ _ => rfl) z1
    by_cases hbit : nm_hb w p = 1
    rotate_left
    · obtain ⟨r, hp', z1, z2, z3, z4⟩ := inc hp ⟨hG, hH, hT0, hT1, ⟨g, hg, hg0⟩, hO⟩
      refine ⟨r, hp', head false _ _ hge ?_, z2, z3, z4⟩
      refine px_q_iln (len := 1) (j := 3) rfl l3 ?_
      refine px_q_il (len := 2) (j := 7) rfl l7 ?_
      refine px_q_stat (len := 3) (n := 2) (N := mm_M_has) (mi := mi_M_has) rfl rfl rfl (Nat.le_of_ble_eq_true rfl) (Nat.le_of_ble_eq_true rfl) rfl rfl (nm_has_C w p hp) ?_
      rw [if_neg hbit]
      refine px_q_if (bb := false) (len := 3) (c := .ne) (off := 6) rfl (by decide) ?_
      exact px_Z_its (pc1 := 120) (lv1 := lv) (st1 := []) (hp1 := hp) 1 (fun _ _ _ _ => rfl) z1
    have hT0' := hT0
    obtain ⟨gq, o1, s1, s2, s3⟩ := hT0'
    rw [hg] at s1
    cases s1
    have ho1 : o1 (0 * 3001 + i) = o i := s3 i (by rw [hg0]; exact hi)
    obtain ⟨hp1, gB, c1, c2, c3, c4, c5⟩ := nm_looks hG s2 (tn := 0) (e := i) (by decide) (by omega)
    have hK1 : df_K o G0 gO b c hp1 := df_K_fr c3 c2 (by decide) (by decide) (by decide) (by decide) ⟨hG, hH, hT0, hT1, ⟨g, hg, hg0⟩, hO⟩
    have hb2 : b < 2 := by rw [← hb]; unfold Int32.toNatClampNeg; omega
    have hgw : gB bo.toNatClampNeg = w := by rw [hb, c5 b hb2, ho1, hw]
    obtain ⟨fs1, hx1, -, -⟩ := ac_obj c2 (c := 69) rfl
    obtain ⟨sv1, hs1, -, -⟩ := nm_fI c2 hx1 (k := nf_sitting) (a := 0) (b := 1023) rfl
    obtain ⟨vs, hvs⟩ := nm_fJ c2 hx1 (k := nf_vainSum) (a := -9223372036854775808) (b := 9223372036854775807) rfl
    obtain ⟨r, hp2, fs2, e1, e2, e3, e4, e5, e6, e7⟩ := nm_takes c2 hx1 (p := p) c4 hK1.2.2.2.2.2 hs1 d0 d5 p0 (by omega) hbo b0 b1
    have hK2 : df_K o G0 gO b c hp2 := df_K_fr e3 e2 (by decide) (by decide) (by decide) (by decide) hK1
    have hl69 : 69 < hp2.length := (List.getElem?_eq_some_iff.mp e6).1
    obtain ⟨vs2, hvs2⟩ := nm_fJ e2 e6 (k := nf_vainSum) (a := -9223372036854775808) (b := 9223372036854775807) rfl
    have hkv : nf_vainSum < fs2.length := (List.getElem?_eq_some_iff.mp hvs2).1
    have bits := nm_bits (s := 0) (w := w) (p := p) (by decide) (by decide) w0 w1 p0 (by omega) hbit Int32.zero_and
    -- the new sum
    have rest : ∀ x : Int64, ∃ (r9 : Int32) (hp' : px_H), px_Z nm_T none nm_P mm_M_drawsFrom 101 lv [.long x, .ref 69] hp2 (some (.int r9)) hp' ∧ (r9 = 0 ∨ r9 = 1) ∧ df_K o G0 gO b c hp' ∧ px_fr df_ws df_wa hp2 hp' := by
      intro x
      have hG3 : ab_h nm_GH (hp2.set 69 (.inr (9, fs2.set nf_vainSum (.long x)))) := nm_h_obj e2 e6 (f := (1, -9223372036854775808, 9223372036854775807, [])) (fun FS h => by cases h; rfl) ⟨rfl, ab_i64 _⟩
      have hf3 : px_fr df_ws df_wa hp2 (hp2.set 69 (.inr (9, fs2.set nf_vainSum (.long x)))) := px_fr_obj e6 (by decide)
      have hf3' : px_fr [(69, nf_vainSum)] [] hp2 (hp2.set 69 (.inr (9, fs2.set nf_vainSum (.long x)))) := px_fr_obj e6 (by decide)
      have hx3 : (hp2.set 69 (.inr (9, fs2.set nf_vainSum (.long x))))[69]? = some (.inr (9, fs2.set nf_vainSum (.long x))) := List.getElem?_set_self hl69
      have hB3 : (hp2.set 69 (.inr (9, fs2.set nf_vainSum (.long x))))[na_inBag]? = some (.inl (nr_inBag, 2, .inl (upd gB bo.toNatClampNeg (nm_out (gB bo.toNatClampNeg) p)))) := by rw [List.getElem?_set_ne (by decide)]; exact e5
      have hK3 := df_K_fr hf3' hG3 (by decide) (by decide) (by decide) (by decide) hK2
      generalize hh3 : hp2.set 69 (.inr (9, fs2.set nf_vainSum (.long x))) = hp3 at hG3 hf3 hx3 hB3 hK3
      obtain ⟨gA, hA3, -⟩ := ac_arrI hG3 (c := na_aside) (t := nr_aside) (n := 2) (lo := 0) (hi := 1023) (Nat.le_of_ble_eq_true rfl) rfl
      obtain ⟨pb, hpb, -, -⟩ := nm_fI hG3 hx3 (k := nf_putBy) (a := 0) (b := 1023) rfl
      obtain ⟨sv, hsv, -, -⟩ := nm_fI hG3 hx3 (k := nf_sitting) (a := 0) (b := 1023) rfl
      obtain ⟨gB', hB3', bB⟩ := ac_arrI hG3 (c := na_inBag) (t := nr_inBag) (n := 2) (lo := 0) (hi := 1023) (Nat.le_of_ble_eq_true rfl) rfl
      rw [hB3] at hB3'
      cases hB3'
      obtain ⟨ra, hp4, f1, f2, f3, f4, f5, f6, f7⟩ := nm_adds_B hG3 (tn := 1) (by decide) (hK3.2.1 1 (by decide)) (pt / (nm_bc w).toInt64) hx3 hB3 hA3 hpb hsv
      have hK4 : df_K o G0 gO b c hp4 := by
        obtain ⟨-, k2, k3, k4, ⟨g3, k5, k6⟩, k7⟩ := hK3
        obtain ⟨g4, j1, j2⟩ := f7 g3 k5
        refine ⟨f2, fun t ht => f5 t ht (k2 t ht), f6 0 _ (by decide) (Or.inl (by decide)) k3, f6 1 _ (by decide) (Or.inr (fun e => ?_)) k4, ⟨g4, j1, by rw [j2 0 (by decide)]; exact k6⟩, f3.1 _ _ (by decide) k7⟩
        rw [nm_fst_bg bB hb2]
        simp only [upd, hb]
        have hgw2 : gB b = w := by rw [← hb]; exact hgw
        rw [if_pos trivial, hgw2]
        omega
      have hf4 : px_fr df_ws df_wa hp2 hp4 := px_fr_tr hf3 (px_fr_mono f3 (by decide) (by decide))
      have pre : ∀ (r9 : Option Value) (h9 : px_H), px_Z nm_T none nm_P mm_M_drawsFrom 115 lv ra.toList hp4 r9 h9 → px_Z nm_T none nm_P mm_M_drawsFrom 101 lv [.long x, .ref 69] hp2 r9 h9 := by
        intro r9 h9 h
        refine px_q_putf (len := 3) (ci := 9) (k := nf_vainSum) (fs := fs2) rfl rfl e6 hkv rfl rfl rfl rfl ?_
        rw [hh3]
        refine px_q_aln (len := 1) (j := 0) rfl l0 ?_
        refine px_Z_its (pc1 := 106) (lv1 := lv) (st1 := [.int (Int32.ofNat 1), .ref 69]) (hp1 := hp3) 1 (fun _ _ _ _ => rfl) ?_
        refine px_q_ll (len := 2) (j := 5) rfl l5 ?_
        refine px_q_il (len := 2) (j := 4) rfl l4 ?_
        refine px_Z_its (pc1 := 111) (lv1 := lv) (st1 := [.long (nm_bc w).toInt64, .long pt, .int (Int32.ofNat 1), .ref 69]) (hp1 := hp3) 1 (fun _ _ _ _ => rfl) ?_
        refine px_q_ldiv (len := 1) rfl hcz ?_
        refine px_q_virt (len := 3) (n := 2) (a := 69) (N := mm_M_adds) (mi := mi_M_adds) (ci := 9) rfl rfl rfl hx3 rfl (Nat.le_of_ble_eq_true rfl) (Nat.le_of_ble_eq_true rfl) rfl rfl f1 ?_
        simpa using h
      rcases f4 with rfl | rfl
      · obtain ⟨r9, hp', z1, z2, z3, z4⟩ := inc hp4 hK4
        exact ⟨r9, hp', pre _ _ (px_q_if (bb := true) (len := 3) (c := .ne) (off := 5) rfl (by decide) z1), z2, z3, px_fr_tr hf4 z4⟩
      · refine ⟨0, hp4, pre _ _ (px_q_if (bb := false) (len := 3) (c := .ne) (off := 5) rfl (by decide) ?_), Or.inl rfl, hK4, hf4⟩
        refine px_Z_its (pc1 := 119) (lv1 := lv) (st1 := [.int 0]) (hp1 := hp4) 1 (fun _ _ _ _ => rfl) ?_
        exact px_q_iret (len := 1) (ty := .boolean) rfl rfl rfl
    have hfr2 : px_fr df_ws df_wa hp hp2 := px_fr_tr (px_fr_mono c3 (by decide) (by decide)) (px_fr_mono e3 (by decide) (by decide))
    have pre2 : ∀ (r9 : Option Value) (h9 : px_H), px_Z nm_T none nm_P mm_M_drawsFrom 87 lv [.int r, .long vs, .ref 69] hp2 r9 h9 → px_Z nm_T none nm_P mm_M_drawsFrom 48 lv [] hp r9 h9 := by
      intro r9 h9 h
      refine head false _ _ hge ?_
      refine px_q_iln (len := 1) (j := 3) rfl l3 ?_
      refine px_q_il (len := 2) (j := 7) rfl l7 ?_
      refine px_q_stat (len := 3) (n := 2) (N := mm_M_has) (mi := mi_M_has) rfl rfl rfl (Nat.le_of_ble_eq_true rfl) (Nat.le_of_ble_eq_true rfl) rfl rfl (nm_has_C w p hp) ?_
      rw [if_pos hbit]
      refine px_q_if (bb := true) (len := 3) (c := .ne) (off := 6) rfl (by decide) ?_
      refine px_q_aln (pc := 69) (len := 1) (j := 0) rfl l0 ?_
      refine px_Z_its (pc1 := 71) (lv1 := lv) (st1 := [.int (Int32.ofNat 0), .ref 69]) (hp1 := hp) 1 (fun _ _ _ _ => rfl) ?_
      refine px_q_iln (len := 1) (j := 1) rfl l1 ?_
      refine px_q_virt (len := 3) (n := 2) (a := 69) (N := mm_M_looksAt) (mi := mi_M_looksAt) (ci := 9) rfl rfl rfl hx rfl (Nat.le_of_ble_eq_true rfl) (Nat.le_of_ble_eq_true rfl) rfl rfl c1 ?_
      refine px_q_aln (pc := 75) (len := 1) (j := 0) rfl l0 ?_
      refine px_Z_its (pc1 := 77) (lv1 := lv) (st1 := [.ref 69, .ref 69]) (hp1 := hp1) 1 (fun _ _ _ _ => rfl) ?_
      refine px_q_get (len := 3) (ci := 9) (k := nf_vainSum) (fs := fs1) (v := .long vs) rfl rfl hx1 hvs ?_
      refine px_q_aln (len := 1) (j := 0) rfl l0 ?_
      refine px_q_iln (len := 1) (j := 2) rfl l2 ?_
      refine px_q_il (len := 2) (j := 7) rfl l7 ?_
      exact px_q_virt (len := 3) (n := 2) (a := 69) (N := mm_M_takes) (mi := mi_M_takes) (ci := 9) rfl rfl rfl hx1 rfl (Nat.le_of_ble_eq_true rfl) (Nat.le_of_ble_eq_true rfl) rfl rfl e1 h
    rcases e4 with rfl | rfl
    · obtain ⟨r9, hp', z1, z2, z3, z4⟩ := rest (vs + pt / (nm_bc w).toInt64)
      refine ⟨r9, hp', pre2 _ _ ?_, z2, z3, px_fr_tr hfr2 z4⟩
      refine px_q_if (bb := true) (len := 3) (c := .eq) (off := 7) rfl (by decide) ?_
      refine px_q_ll (pc := 94) (len := 2) (j := 5) rfl l5 ?_
      refine px_q_il (len := 2) (j := 4) rfl l4 ?_
      refine px_Z_its (pc1 := 99) (lv1 := lv) (st1 := [.long (nm_bc w).toInt64, .long pt, .long vs, .ref 69]) (hp1 := hp2) 1 (fun _ _ _ _ => rfl) ?_
      refine px_q_ldiv (len := 1) rfl hcz ?_
      exact px_Z_its (pc1 := 101) (lv1 := lv) (st1 := [.long (vs + pt / (nm_bc w).toInt64), .ref 69]) (hp1 := hp2) 1 (fun _ _ _ _ => rfl) z1
    · obtain ⟨r9, hp', z1, z2, z3, z4⟩ := rest (vs + 0)
      refine ⟨r9, hp', pre2 _ _ ?_, z2, z3, px_fr_tr hfr2 z4⟩
      refine px_q_if (bb := false) (len := 3) (c := .eq) (off := 7) rfl (by decide) ?_
      exact px_Z_its (pc1 := 101) (lv1 := lv) (st1 := [.long (vs + 0), .ref 69]) (hp1 := hp2) 3 (fun _ _ _ _ => rfl) z1
