/-! run: the loop -/
theorem ru_end {hp : px_H} {lv : List (Nat × Value)} {d n k : Int32} (hG : ab_h nm_GH hp) (h0 : px_find 0 lv = some (.ref 69)) (h1 : px_find 1 lv = some (.int d)) (h2 : px_find 2 lv = some (.int n)) (h3 : px_find 3 lv = some (.int k)) (d0 : 0 ≤ d.toInt) (d5 : d.toInt ≤ 5) (n0 : 0 ≤ n.toInt) (n3 : n.toInt ≤ 3) (k0 : 0 ≤ k.toInt) (k9 : k.toInt ≤ 10) :
    ∃ (r : Int32) (hp' : px_H), px_Z nm_T none nm_P mm_M_run 104 lv [] hp (some (.int r)) hp' ∧ -1 ≤ r.toInt ∧ r.toInt ≤ 3 ∧ ab_h nm_GH hp' ∧ px_fr ru_ws ru_wa hp hp' := by
  have h := ru_ck_t
  unfold ru_ck at h
  split at h
  rotate_left
  · cases h
  rename_i o ho
  simp only [Bool.and_eq_true, List.all_eq_true] at h
  have hA : ac_s nm_GH nm_Φ (fun _ => 0) (fun _ => 0) ru_B lv [] hp := by
    refine ⟨fun j a hm => ?_, trivial, hG, fun q hq => (by cases hq), fun j q hq => (by simp [ru_B] at hq), fun i hi => (by cases hi), fun q hq => (by cases hq)⟩
    simp only [ru_B, List.mem_cons, Prod.mk.injEq, List.not_mem_nil, or_false] at hm
    rcases hm with ⟨rfl, rfl⟩ | ⟨rfl, rfl⟩ | ⟨rfl, rfl⟩ | ⟨rfl, rfl⟩
    · exact ⟨_, h0, ⟨rfl, List.mem_cons_self⟩, ab_o_none _ _ _ _⟩
    · exact ⟨_, h1, ⟨rfl, d0, d5⟩, ab_o_none _ _ _ _⟩
    · exact ⟨_, h2, ⟨rfl, n0, n3⟩, ab_o_none _ _ _ _⟩
    · exact ⟨_, h3, ⟨rfl, k0, k9⟩, ab_o_none _ _ _ _⟩
  rcases ac_run_ok (xs := fun _ => 0) nm_Fl nm_FG (List.forall_mem_cons.mpr ⟨kp_M_closes_0, fun _ h => absurd h List.not_mem_nil⟩) 20000 true [] mi_M_run mm_M_run 104 _ o none _ lv [] hp ho hA with ⟨r, hp', oc, m1, m2, m3, m4⟩ | ⟨pc', lv', st', hp', A', m1, -⟩
  · have hs := h.1 oc m1
    have g1 := m2.1
    cases hq : oc.1 with
    | none => rw [hq] at hs; cases hs
    | some a =>
      rw [hq] at hs g1
      cases r with
      | none => exact absurd g1 (by simp)
      | some v =>
        obtain ⟨x, rfl, hx⟩ := ab_f0 (ab_le_ok hs (show ab_f a.1 v from g1.1))
        exact ⟨x, hp', m4, hx.1, hx.2, m2.2.1, m3⟩
  · have := h.2
    rw [List.isEmpty_iff] at this
    rw [this] at m1
    cases m1
theorem nm_h_obj {hp : px_H} {fs : List Value} (hG : ab_h nm_GH hp) (hx : hp[69]? = some (.inr (9, fs))) {k : Nat} {f : ab_F} {u : Value} (hf : ∀ FS, nm_GH[69]? = some (.inl (9, FS)) → FS[k]? = some f) (hu : ab_f f u) : ab_h nm_GH (hp.set 69 (.inr (9, fs.set k u))) := by
  refine ⟨by rw [List.length_set]; exact hG.1, fun j a y ha hy => ?_⟩
  by_cases hj : j = 69
  · subst hj
    rw [List.getElem?_set_self (List.getElem?_eq_some_iff.mp hx).1] at hy
    cases hy
    have h1 := hG.2 69 a _ ha hx
    cases a with
    | inr q => exact absurd h1 (by simp [ab_c])
    | inl q =>
      obtain ⟨ci, FS⟩ := q
      obtain ⟨e1, e2, e3⟩ := h1
      subst e1
      refine ⟨rfl, by rw [List.length_set]; exact e2, fun k' f' v hf' hv => ?_⟩
      by_cases hk : k' = k
      · subst hk
        have hlt : k' < fs.length := by
          have := (List.getElem?_eq_some_iff.mp hv).1
          rwa [List.length_set] at this
        rw [List.getElem?_set_self hlt] at hv
        cases hv
        rw [hf FS ha] at hf'
        cases hf'
        exact hu
      · rw [List.getElem?_set_ne (fun h => hk h.symm)] at hv
        exact e3 k' f' v hf' hv
  · rw [List.getElem?_set_ne (fun h => hj h.symm)] at hy
    exact hG.2 j a y ha hy
theorem ru_pre {hp hp1 hp' : px_H} {Q : Int32 → Prop} {pc pc1 : Nat} {lv lv1 : List (Nat × Value)} {st st1 : List Value} (hfr : px_fr ru_ws ru_wa hp hp1) (hZ : ∀ (r : Option Value) (h2 : px_H), px_Z nm_T none nm_P mm_M_run pc1 lv1 st1 hp1 r h2 → px_Z nm_T none nm_P mm_M_run pc lv st hp r h2)
    (h : ∃ (r : Int32) (hp' : px_H), px_Z nm_T none nm_P mm_M_run pc1 lv1 st1 hp1 (some (.int r)) hp' ∧ -1 ≤ r.toInt ∧ r.toInt ≤ 3 ∧ ab_h nm_GH hp' ∧ px_fr ru_ws ru_wa hp1 hp') : ∃ (r : Int32) (hp' : px_H), px_Z nm_T none nm_P mm_M_run pc lv st hp (some (.int r)) hp' ∧ -1 ≤ r.toInt ∧ r.toInt ≤ 3 ∧ ab_h nm_GH hp' ∧ px_fr ru_ws ru_wa hp hp' := by
  obtain ⟨r, hp', a1, a2, a3, a4, a5⟩ := h
  exact ⟨r, hp', hZ _ _ a1, a2, a3, a4, px_fr_tr hfr a5⟩
set_option maxHeartbeats 4000000 in
theorem ru_loop {gO gS : Nat → Int32} {d bo : Int32} (d0 : 0 ≤ d.toInt) (d5 : d.toInt ≤ 5) (hbo : gO d.toNatClampNeg = bo) (b0 : 0 ≤ bo.toInt) (b1 : bo.toInt ≤ 1) (hS3 : (gS d.toNatClampNeg).toInt ≤ 3) : ∀ (m : Nat) (lv : List (Nat × Value)) (hp : px_H) (fs : List Value) (gB : Nat → Int32) (sv n k : Int32), ab_h nm_GH hp → hp[69]? = some (.inr (9, fs)) → hp[na_inBag]? = some (.inl (nr_inBag, 2, .inl gB)) → hp[na_bagOf]? = some (.inl (nr_bagOf, 6, .inl gO)) → hp[na_seatsOf]? = some (.inl (nr_seatsOf, 6, .inl gS)) → fs[nf_sitting]? = some (.int sv) →
    px_find 0 lv = some (.ref 69) → px_find 1 lv = some (.int d) → px_find 2 lv = some (.int n) → px_find 3 lv = some (.int k) → sv &&& gB bo.toNatClampNeg = 0 → nm_bc sv = n → n.toInt ≤ (gS d.toNatClampNeg).toInt → 0 ≤ k.toInt → k.toInt + (nm_bc (gB bo.toNatClampNeg)).toInt ≤ 10 → (nm_bc (gB bo.toNatClampNeg)).toInt < m →
    ∃ (r : Int32) (hp' : px_H), px_Z nm_T none nm_P mm_M_run 32 lv [] hp (some (.int r)) hp' ∧ -1 ≤ r.toInt ∧ r.toInt ≤ 3 ∧ ab_h nm_GH hp' ∧ px_fr ru_ws ru_wa hp hp' := by
  intro m
  induction m with
  | zero =>
    intro lv hp fs gB sv n k hG hx hB hO hS hs l0 l1 l2 l3 hd hn hn3 hk hkw hm
    have := (nm_bc_63 (gB bo.toNatClampNeg)).1
    omega
  | succ m ih =>
    intro lv hp fs gB sv n k hG hx hB hO hS hs l0 l1 l2 l3 hd hn hn3 hk hkw hm
    obtain ⟨gB', hB', bB⟩ := ac_arrI hG (c := na_inBag) (t := nr_inBag) (n := 2) (lo := 0) (hi := 1023) (Nat.le_of_ble_eq_true rfl) rfl
    rw [hB] at hB'
    cases hB'
    have hw := bB bo.toNatClampNeg (by unfold Int32.toNatClampNeg; omega)
    obtain ⟨sv', hs', s0, s1⟩ := nm_fI hG hx (k := nf_sitting) (a := 0) (b := 1023) rfl
    rw [hs] at hs'
    cases hs'
    have n0 : 0 ≤ n.toInt := by rw [← hn]; exact (nm_bc_63 sv).1
    have bw0 := (nm_bc_63 (gB bo.toNatClampNeg)).1
    obtain ⟨ov, hov, hr01, hr0⟩ := nm_over hG hx hB hO hS hs d0 d5 hbo b0 b1
    refine ru_pre (pc1 := 37) (lv1 := lv) (st1 := [.int ov]) (hp1 := hp) (Q := fun _ => True) (hp' := hp) (px_fr_rf _ _ _) (fun r h2 hz => ?_) ?_
    · refine px_q_aln (len := 1) (j := 0) rfl l0 ?_
      refine px_q_iln (len := 1) (j := 1) rfl l1 ?_
      exact px_q_virt (len := 3) (n := 1) (a := 69) (N := mm_M_isOver) (mi := mi_M_isOver) (ci := 9) rfl rfl rfl hx rfl (Nat.le_of_ble_eq_true rfl) (Nat.le_of_ble_eq_true rfl) rfl rfl hov hz
    rcases hr01 with rfl | rfl
    rotate_left
    · refine ru_pre (pc1 := 104) (lv1 := lv) (st1 := []) (hp1 := hp) (Q := fun _ => True) (hp' := hp) (px_fr_rf _ _ _) (fun r h2 hz => px_q_if (bb := true) (len := 3) (c := .ne) (off := 67) rfl (by decide) hz) ?_
      exact ru_end hG l0 l1 l2 l3 d0 d5 n0 (by omega) hk (by omega)
    obtain ⟨hw0, hns⟩ := hr0 rfl
    have hw1 : 1 ≤ (gB bo.toNatClampNeg).toInt := by
      have : (gB bo.toNatClampNeg).toInt ≠ 0 := fun h => hw0 (by rw [← Int32.toInt_inj, h, Int32.toInt_zero])
      omega
    have hb10 := nm_bc_10 (gB bo.toNatClampNeg) hw1 hw.2
    have hnl : n.toInt < (gS d.toNatClampNeg).toInt := by
      have : n.toInt ≠ (gS d.toNatClampNeg).toInt := fun h => hns (by rw [hn, ← Int32.toInt_inj, h])
      omega
    obtain ⟨q, x, hdr, q0, q1⟩ := nm_draws_C hG hx (nm_bc (gB bo.toNatClampNeg)) hb10.1 hb10.2
    generalize hw9 : gB bo.toNatClampNeg = w at *
    have hnf := nm_nf_ok (w := w) (q := q) (by omega) hw.2 q0 (by omega) q1
    generalize hpp : nm_nf w 10 q = p at hnf
    have hks : nf_sitting < fs.length := (List.getElem?_eq_some_iff.mp hs).1
    have hl69 : 69 < hp.length := (List.getElem?_eq_some_iff.mp hx).1
    have hx2 : (hp.set 69 (.inr (9, fs.set nf_random (.int x))))[69]? = some (.inr (9, fs.set nf_random (.int x))) := List.getElem?_set_self hl69
    have hs2 : (fs.set nf_random (.int x))[nf_sitting]? = some (.int sv) := by rw [List.getElem?_set_ne (by decide)]; exact hs
    have hG2 : ab_h nm_GH (hp.set 69 (.inr (9, fs.set nf_random (.int x)))) := nm_h_obj hG hx (f := (0, -2147483648, 2147483647, [])) (fun FS h => by cases h; rfl) ⟨rfl, ab_i32 _⟩
    have hfr2 : px_fr ru_ws ru_wa hp (hp.set 69 (.inr (9, fs.set nf_random (.int x)))) := px_fr_obj hx (by decide)
    have hB2 : (hp.set 69 (.inr (9, fs.set nf_random (.int x))))[na_inBag]? = some (.inl (nr_inBag, 2, .inl gB)) := by rw [List.getElem?_set_ne (by decide)]; exact hB
    have hO2 : (hp.set 69 (.inr (9, fs.set nf_random (.int x))))[na_bagOf]? = some (.inl (nr_bagOf, 6, .inl gO)) := by rw [List.getElem?_set_ne (by decide)]; exact hO
    have hS2 : (hp.set 69 (.inr (9, fs.set nf_random (.int x))))[na_seatsOf]? = some (.inl (nr_seatsOf, 6, .inl gS)) := by rw [List.getElem?_set_ne (by decide)]; exact hS
    generalize hp.set 69 (.inr (9, fs.set nf_random (.int x))) = hp2 at hdr hx2 hG2 hfr2 hB2 hO2 hS2
    generalize fs.set nf_random (.int x) = fs2 at hx2 hs2
    obtain ⟨gL, hL2, -⟩ := ac_arrI hG2 (c := na_slips) (t := nr_slips) (n := 10) (lo := (-2147483648)) (hi := 2147483647) (Nat.le_of_ble_eq_true rfl) rfl
    have hfs2 : fs2[nf_slips]? = some (.ref na_slips) := nm_f hG2 hx2 rfl
    have hG3 : ab_h nm_GH (hp2.set na_slips (.inl (nr_slips, 10, .inl (upd gL k.toNatClampNeg p)))) := ac_h_arr hG2 hL2 rfl ⟨rfl, rfl, fun j _ => ⟨rfl, ab_i32 _⟩⟩
    have hfr3 : px_fr ru_ws ru_wa hp (hp2.set na_slips (.inl (nr_slips, 10, .inl (upd gL k.toNatClampNeg p)))) := px_fr_tr hfr2 (px_fr_arr hL2 (by decide))
    have hx3 : (hp2.set na_slips (.inl (nr_slips, 10, .inl (upd gL k.toNatClampNeg p))))[69]? = some (.inr (9, fs2)) := by rw [List.getElem?_set_ne (by decide)]; exact hx2
    have hB3 : (hp2.set na_slips (.inl (nr_slips, 10, .inl (upd gL k.toNatClampNeg p))))[na_inBag]? = some (.inl (nr_inBag, 2, .inl gB)) := by rw [List.getElem?_set_ne (by decide)]; exact hB2
    have hO3 : (hp2.set na_slips (.inl (nr_slips, 10, .inl (upd gL k.toNatClampNeg p))))[na_bagOf]? = some (.inl (nr_bagOf, 6, .inl gO)) := by rw [List.getElem?_set_ne (by decide)]; exact hO2
    have hS3' : (hp2.set na_slips (.inl (nr_slips, 10, .inl (upd gL k.toNatClampNeg p))))[na_seatsOf]? = some (.inl (nr_seatsOf, 6, .inl gS)) := by rw [List.getElem?_set_ne (by decide)]; exact hS2
    generalize hh3 : hp2.set na_slips (.inl (nr_slips, 10, .inl (upd gL k.toNatClampNeg p))) = hp3 at hG3 hfr3 hx3 hB3 hO3 hS3'
    obtain ⟨r, hp4, fs4, hC4, hG4, hfr4, hr4, hB4, hx4, hs4⟩ := nm_takes hG3 hx3 (p := p) hB3 hO3 hs2 d0 d5 hnf.1 hnf.2.1 hbo b0 b1
    have hO4 := hfr4.1 na_bagOf _ (by decide) hO3
    have hS4 := hfr4.1 na_seatsOf _ (by decide) hS3'
    have hfr4' : px_fr ru_ws ru_wa hp hp4 := px_fr_tr hfr3 (px_fr_mono hfr4 (by decide) (by decide))
    have bits := nm_bits (p := p) s0 s1 hw.1 hw.2 hnf.1 hnf.2.1 hnf.2.2 hd
    rw [hw9] at hB4
    have eu : upd gB bo.toNatClampNeg (nm_out w p) bo.toNatClampNeg = nm_out w p := by simp [upd]
    have k1 : (k + Int32.ofInt 1).toInt = k.toInt + 1 := by
      rw [Int32.toInt_add, show (Int32.ofInt 1).toInt = 1 from by decide]
      apply Int.bmod_eq_of_le <;> omega
    have n1 : (n + Int32.ofInt 1).toInt = n.toInt + 1 := by
      rw [Int32.toInt_add, show (Int32.ofInt 1).toInt = 1 from by decide]
      apply Int.bmod_eq_of_le <;> omega
    generalize hlA : px_st1 lv 4 (.int w) = lvA
    have a0 : px_find 0 lvA = some (.ref 69) := by rw [← hlA]; exact px_st1_nr l0
    have a1 : px_find 1 lvA = some (.int d) := by rw [← hlA]; exact px_st1_ne l1
    have a2 : px_find 2 lvA = some (.int n) := by rw [← hlA]; exact px_st1_ne l2
    have a3 : px_find 3 lvA = some (.int k) := by rw [← hlA]; exact ab_sto1_find l3 (by decide) (fun _ hc => by cases hc)
    have a4 : px_find 4 lvA = some (.int w) := by rw [← hlA]; exact px_st1_at _ _ _
    generalize hlB : px_st1 lvA 5 (.int p) = lvB
    have c0 : px_find 0 lvB = some (.ref 69) := by rw [← hlB]; exact px_st1_nr a0
    have c1 : px_find 1 lvB = some (.int d) := by rw [← hlB]; exact px_st1_ne a1
    have c2 : px_find 2 lvB = some (.int n) := by rw [← hlB]; exact px_st1_ne a2
    have c3 : px_find 3 lvB = some (.int k) := by rw [← hlB]; exact px_st1_ne a3
    have c5 : px_find 5 lvB = some (.int p) := by rw [← hlB]; exact px_st1_at _ _ _
    generalize hlC : px_st1 lvB 3 (.int (k + Int32.ofInt 1)) = lvC
    have e0 : px_find 0 lvC = some (.ref 69) := by rw [← hlC]; exact px_st1_nr c0
    have e1 : px_find 1 lvC = some (.int d) := by rw [← hlC]; exact px_st1_ne c1
    have e2 : px_find 2 lvC = some (.int n) := by rw [← hlC]; exact ab_sto1_find c2 (by decide) (fun _ hc => by cases hc)
    have e3 : px_find 3 lvC = some (.int (k + Int32.ofInt 1)) := by rw [← hlC]; exact px_st1_at _ _ _
    have e5 : px_find 5 lvC = some (.int p) := by rw [← hlC]; exact ab_sto1_find c5 (by decide) (fun _ hc => by cases hc)
    refine ru_pre (pc1 := 87) (lv1 := lvC) (st1 := [.int r]) (hp1 := hp4) (Q := fun _ => True) (hp' := hp) hfr4' (fun r9 h2 hz => ?_) ?_
    · refine px_q_if (bb := false) (len := 3) (c := .ne) (off := 67) rfl (by decide) ?_
      refine px_q_aln (len := 1) (j := 0) rfl l0 ?_
      refine px_q_get (len := 3) (ci := 9) (k := nf_inBag) (fs := fs) (v := .ref na_inBag) rfl rfl hx (nm_f hG hx rfl) ?_
      refine px_q_aln (len := 1) (j := 0) rfl l0 ?_
      refine px_q_get (len := 3) (ci := 9) (k := nf_bagOf) (fs := fs) (v := .ref na_bagOf) rfl rfl hx (nm_f hG hx rfl) ?_
      refine px_q_iln (len := 1) (j := 1) rfl l1 ?_
      refine px_q_iald (len := 1) rfl hO rfl (nm_ixR d 6 d0 (by omega)) ?_
      rw [hbo]
      refine px_q_iald (len := 1) rfl hB rfl (nm_ixR bo 2 b0 (by omega)) ?_
      rw [hw9]
      refine px_Z_its (pc1 := 53) (lv1 := lvA) (st1 := []) (hp1 := hp) 1 (fun _ _ _ _ => by rw [← hlA]; rfl) ?_
      refine px_q_il (len := 2) (j := 4) rfl a4 ?_
      refine px_q_aln (len := 1) (j := 0) rfl a0 ?_
      refine px_q_il (len := 2) (j := 4) rfl a4 ?_
      refine px_q_stat (len := 3) (n := 1) (N := mm_I_bitCount) (mi := mi_I_bitCount) rfl rfl rfl (Nat.le_of_ble_eq_true rfl) (Nat.le_of_ble_eq_true rfl) rfl rfl (nm_bc_C w hp) ?_
      refine px_q_virt (len := 3) (n := 1) (a := 69) (N := mm_M_draws) (mi := mi_M_draws) (ci := 9) rfl rfl rfl hx rfl (Nat.le_of_ble_eq_true rfl) (Nat.le_of_ble_eq_true rfl) rfl rfl hdr ?_
      refine px_q_stat (len := 3) (n := 2) (N := mm_M_nth) (mi := mi_M_nth) rfl rfl rfl (Nat.le_of_ble_eq_true rfl) (Nat.le_of_ble_eq_true rfl) rfl rfl (nm_nth_C w q hp2) ?_
      rw [hpp]
      refine px_Z_its (pc1 := 69) (lv1 := lvB) (st1 := []) (hp1 := hp2) 1 (fun _ _ _ _ => by rw [← hlB]; rfl) ?_
      refine px_q_aln (len := 1) (j := 0) rfl c0 ?_
      refine px_q_get (len := 3) (ci := 9) (k := nf_slips) (fs := fs2) (v := .ref na_slips) rfl rfl hx2 hfs2 ?_
      refine px_q_iln (len := 1) (j := 3) rfl c3 ?_
      refine px_q_il (len := 2) (j := 5) rfl c5 ?_
      refine px_q_iast (len := 1) rfl hL2 rfl (nm_ixR k 10 hk (by omega)) ?_
      rw [hh3]
      refine px_q_iinc (len := 3) (j := 3) (n := 1) rfl c3 rfl ?_
      rw [hlC]
      refine px_q_aln (len := 1) (j := 0) rfl e0 ?_
      refine px_q_iln (len := 1) (j := 1) rfl e1 ?_
      refine px_q_il (len := 2) (j := 5) rfl e5 ?_
      exact px_q_virt (len := 3) (n := 2) (a := 69) (N := mm_M_takes) (mi := mi_M_takes) (ci := 9) rfl rfl rfl hx3 rfl (Nat.le_of_ble_eq_true rfl) (Nat.le_of_ble_eq_true rfl) rfl rfl hC4 hz
    rcases hr4 with rfl | rfl
    · refine ru_pre (pc1 := 32) (lv1 := lvC) (st1 := []) (hp1 := hp4) (Q := fun _ => True) (hp' := hp) (px_fr_rf _ _ _) (fun r9 h2 hz => px_q_if (bb := true) (len := 3) (c := .eq) (off := 14) rfl (by decide) (px_Z_its (pc1 := 32) (lv1 := lvC) (st1 := []) (hp1 := hp4) 1 (fun _ _ _ _ => rfl) hz)) ?_
      rw [if_neg (by decide)] at hs4
      exact ih lvC hp4 fs4 _ sv n _ hG4 hx4 hB4 hO4 hS4 hs4 e0 e1 e2 e3 (by rw [eu]; exact bits.2.2.2) hn hn3 (by omega) (by rw [eu]; omega) (by rw [eu]; omega)
    · rw [if_pos rfl] at hs4
      obtain ⟨gT, hT4, -⟩ := ac_arrI hG4 (c := na_sits) (t := nr_sits) (n := 3) (lo := (-2147483648)) (hi := 2147483647) (Nat.le_of_ble_eq_true rfl) rfl
      have hfs4 : fs4[nf_sits]? = some (.ref na_sits) := nm_f hG4 hx4 rfl
      generalize hlD : px_st1 lvC 2 (.int (n + Int32.ofInt 1)) = lvD
      have g0 : px_find 0 lvD = some (.ref 69) := by rw [← hlD]; exact px_st1_nr e0
      have g1 : px_find 1 lvD = some (.int d) := by rw [← hlD]; exact ab_sto1_find e1 (by decide) (fun _ hc => by cases hc)
      have g2 : px_find 2 lvD = some (.int (n + Int32.ofInt 1)) := by rw [← hlD]; exact px_st1_at _ _ _
      have g3 : px_find 3 lvD = some (.int (k + Int32.ofInt 1)) := by rw [← hlD]; exact ab_sto1_find e3 (by decide) (fun _ hc => by cases hc)
      refine ru_pre (pc1 := 32) (lv1 := lvD) (st1 := []) (hp1 := hp4.set na_sits (.inl (nr_sits, 3, .inl (upd gT n.toNatClampNeg p)))) (Q := fun _ => True) (hp' := hp) (px_fr_arr hT4 (by decide)) (fun r9 h2 hz => ?_) ?_
      · refine px_q_if (bb := false) (len := 3) (c := .eq) (off := 14) rfl (by decide) ?_
        refine px_q_aln (len := 1) (j := 0) rfl e0 ?_
        refine px_q_get (len := 3) (ci := 9) (k := nf_sits) (fs := fs4) (v := .ref na_sits) rfl rfl hx4 hfs4 ?_
        refine px_q_iln (len := 1) (j := 2) rfl e2 ?_
        refine px_q_il (len := 2) (j := 5) rfl e5 ?_
        refine px_q_iast (len := 1) rfl hT4 rfl (nm_ixR n 3 n0 (by omega)) ?_
        refine px_q_iinc (len := 3) (j := 2) (n := 1) rfl e2 rfl ?_
        rw [hlD]
        exact px_Z_its (pc1 := 32) (lv1 := lvD) (st1 := []) 1 (fun _ _ _ _ => rfl) hz
      exact ih lvD _ fs4 _ (sv ||| nm_bit p) (n + Int32.ofInt 1) _ (ac_h_arr hG4 hT4 rfl ⟨rfl, rfl, fun j _ => ⟨rfl, ab_i32 _⟩⟩) (by rw [List.getElem?_set_ne (by decide)]; exact hx4) (by rw [List.getElem?_set_ne (by decide)]; exact hB4) (by rw [List.getElem?_set_ne (by decide)]; exact hO4) (by rw [List.getElem?_set_ne (by decide)]; exact hS4) hs4 g0 g1 g2 g3 (by rw [eu]; exact bits.2.2.1)
        (by rw [← Int32.toInt_inj, bits.2.1, n1, hn]) (by omega) (by omega) (by rw [eu]; omega) (by rw [eu]; omega)
