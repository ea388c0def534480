/-! takes: what it does to the bag and to the sitting -/
def nm_bit (p : Int32) : Int32 := 1 <<< (p &&& 31)
def nm_out (w p : Int32) : Int32 := w &&& (nm_bit p ^^^ -1)
theorem px_C_fun {T : px_T} {P : List px_M} {mi : Nat} {av : List Value} {hp h1 h2 : px_H} {r1 r2 : Option Value} (a : px_C T P mi av hp r1 h1) (b : px_C T P mi av hp r2 h2) : r1 = r2 ∧ h1 = h2 := by
  obtain ⟨n1, a⟩ := a
  obtain ⟨n2, b⟩ := b
  have e1 := a (max n1 n2) (by omega)
  have e2 := b (max n1 n2) (by omega)
  rw [e1] at e2
  cases e2
  exact ⟨rfl, rfl⟩
theorem nm_fI {hp : px_H} {fs : List Value} (hG : ab_h nm_GH hp) (hx : hp[69]? = some (.inr (9, fs))) {k : Nat} {a b : Int} (h : ac_f1 nm_GH 9 k 69 = some (0, a, b, [])) : ∃ x : Int32, fs[k]? = some (.int x) ∧ a ≤ x.toInt ∧ x.toInt ≤ b := by
  obtain ⟨vs', v, e1, e2, e3, -⟩ := ac_f1_ok hG h
  rw [hx] at e1
  cases e1
  obtain ⟨x, rfl, hb⟩ := ab_f0 e3
  exact ⟨x, e2, hb.1, hb.2⟩
def tk_B : ac_S := ([(0, ((2, 0, 0, [69]), none)), (1, ((0, 0, 5, []), none)), (2, ((0, 0, 9, []), none)), (3, ((0, 0, 1, []), none)), (4, ((0, 0, 6, []), none))], [], [], [], [], [])
def tk_ck : Bool := match ac_run nm_T nm_P nm_GH nm_FA [] [] [(69, nf_putBy)] [na_aside] 20000 true [] mi_M_takes mm_M_takes 68 tk_B with
  | some o => o.1.all (fun q => match q.1 with | some a => decide (a.1 = (0, 0, 0, [])) | none => false) && o.2.isEmpty
  | none => false
set_option maxRecDepth 1000000 in
theorem tk_ck_t : tk_ck = true := by decide +kernel
theorem tk_68 {hp : px_H} {lv : List (Nat × Value)} {d p bo r4 : Int32} (hG : ab_h nm_GH hp) (h0 : px_find 0 lv = some (.ref 69)) (h1 : px_find 1 lv = some (.int d)) (h2 : px_find 2 lv = some (.int p)) (h3 : px_find 3 lv = some (.int bo)) (h4 : px_find 4 lv = some (.int r4)) (d0 : 0 ≤ d.toInt) (d5 : d.toInt ≤ 5) (p0 : 0 ≤ p.toInt) (p9 : p.toInt ≤ 9) (b0 : 0 ≤ bo.toInt) (b1 : bo.toInt ≤ 1) (r0 : 0 ≤ r4.toInt) (r6 : r4.toInt ≤ 6) :
    ∃ hp', px_Z nm_T none nm_P mm_M_takes 68 lv [] hp (some (.int 0)) hp' ∧ px_fr [(69, nf_putBy)] [na_aside] hp hp' := by
  have h := tk_ck_t
  unfold tk_ck at h
  split at h
  rotate_left
  · cases h
  rename_i o ho
  simp only [Bool.and_eq_true, List.all_eq_true] at h
  have hA : ac_s nm_GH nm_Φ (fun _ => 0) (fun _ => 0) tk_B lv [] hp := by
    refine ⟨fun j a hm => ?_, trivial, hG, fun q hq => (by cases hq), fun j q hq => (by simp [tk_B] at hq), fun i hi => (by cases hi), fun q hq => (by cases hq)⟩
    simp only [tk_B, List.mem_cons, Prod.mk.injEq, List.not_mem_nil, or_false] at hm
    rcases hm with ⟨rfl, rfl⟩ | ⟨rfl, rfl⟩ | ⟨rfl, rfl⟩ | ⟨rfl, rfl⟩ | ⟨rfl, rfl⟩
    · exact ⟨_, h0, ⟨rfl, List.mem_cons_self⟩, ab_o_none _ _ _ _⟩
    · exact ⟨_, h1, ⟨rfl, d0, d5⟩, ab_o_none _ _ _ _⟩
    · exact ⟨_, h2, ⟨rfl, p0, p9⟩, ab_o_none _ _ _ _⟩
    · exact ⟨_, h3, ⟨rfl, b0, b1⟩, ab_o_none _ _ _ _⟩
    · exact ⟨_, h4, ⟨rfl, r0, r6⟩, ab_o_none _ _ _ _⟩
  rcases ac_run_ok (xs := fun _ => 0) nm_Fl nm_FG (fun _ h => absurd h List.not_mem_nil) 20000 true [] mi_M_takes mm_M_takes 68 _ o none _ lv [] hp ho hA with ⟨r, hp', oc, m1, m2, m3, m4⟩ | ⟨pc', lv', st', hp', A', m1, -⟩
  · have hs := h.1 oc m1
    have g1 := m2.1
    cases hq : oc.1 with
    | none => rw [hq] at hs; cases hs
    | some a =>
      rw [hq] at hs g1
      have hs := of_decide_eq_true hs
      cases r with
      | none => exact absurd g1 (by simp)
      | some v =>
        have g2 : ab_f a.1 v := g1.1
        rw [hs] at g2
        obtain ⟨x, rfl, hx⟩ := ab_f0 g2
        have : x = 0 := by
          rw [← Int32.toInt_inj]
          have := hx.1
          have := hx.2
          simp only [Int32.toInt_zero] at *
          omega
        subst this
        exact ⟨hp', m4, m3⟩
  · have := h.2
    rw [List.isEmpty_iff] at this
    rw [this] at m1
    cases m1
theorem nm_takes {hp : px_H} {fs : List Value} (hG : ab_h nm_GH hp) (hx : hp[69]? = some (.inr (9, fs))) {gB gO : Nat → Int32} {sv d p bo : Int32} (hB : hp[na_inBag]? = some (.inl (nr_inBag, 2, .inl gB))) (hO : hp[na_bagOf]? = some (.inl (nr_bagOf, 6, .inl gO))) (hs : fs[nf_sitting]? = some (.int sv)) (d0 : 0 ≤ d.toInt) (d5 : d.toInt ≤ 5) (p0 : 0 ≤ p.toInt) (p9 : p.toInt ≤ 9) (hbo : gO d.toNatClampNeg = bo) (b0 : 0 ≤ bo.toInt) (b1 : bo.toInt ≤ 1) :
    ∃ (r : Int32) (hp' : px_H) (fs' : List Value), px_C nm_T nm_P mi_M_takes [.ref 69, .int d, .int p] hp (some (.int r)) hp' ∧ ab_h nm_GH hp' ∧ px_fr kc_M_takes_0.2.2.2.2.1 kc_M_takes_0.2.2.2.2.2 hp hp' ∧ (r = 0 ∨ r = 1) ∧ hp'[na_inBag]? = some (.inl (nr_inBag, 2, .inl (upd gB bo.toNatClampNeg (nm_out (gB bo.toNatClampNeg) p)))) ∧ hp'[69]? = some (.inr (9, fs')) ∧
      fs'[nf_sitting]? = some (.int (if r = 1 then sv ||| nm_bit p else sv)) := by
  obtain ⟨r9, hp9, o9, m1, m2, m3, m4, m5, -, m7⟩ := kp_M_takes_0 [.ref 69, .int d, .int p] hp hG ⟨⟨rfl, List.mem_cons_self⟩, ⟨rfl, d0, d5⟩, ⟨rfl, p0, p9⟩, trivial⟩ (fun i hi => by cases hi)
  suffices hh : ∃ (r : Int32) (hp' : px_H) (fs' : List Value), px_C nm_T nm_P mi_M_takes [.ref 69, .int d, .int p] hp (some (.int r)) hp' ∧ (r = 0 ∨ r = 1) ∧ hp'[na_inBag]? = some (.inl (nr_inBag, 2, .inl (upd gB bo.toNatClampNeg (nm_out (gB bo.toNatClampNeg) p)))) ∧ hp'[69]? = some (.inr (9, fs')) ∧
      fs'[nf_sitting]? = some (.int (if r = 1 then sv ||| nm_bit p else sv)) by
    obtain ⟨r, hp', fs', a1, a2, a3, a4, a5⟩ := hh
    obtain ⟨e1, e2⟩ := px_C_fun a1 m2
    subst e2
    exact ⟨r, hp', fs', a1, m3, m7, a2, a3, a4, a5⟩
  have iO : px_inR d 6 = true := nm_ixR d 6 d0 (by omega)
  have iB : px_inR bo 2 = true := nm_ixR bo 2 b0 (by omega)
  have hl88 : na_inBag < hp.length := (List.getElem?_eq_some_iff.mp hB).1
  obtain ⟨gB', hB', bB⟩ := ac_arrI hG (c := na_inBag) (t := nr_inBag) (n := 2) (lo := 0) (hi := 1023) (Nat.le_of_ble_eq_true rfl) rfl
  rw [hB] at hB'
  cases hB'
  have hw := bB bo.toNatClampNeg (by unfold Int32.toNatClampNeg; omega)
  have ho := ab_and32 (gB bo.toNatClampNeg) (nm_bit p ^^^ -1) hw.1
  generalize hh1 : hp.set na_inBag (.inl (nr_inBag, 2, .inl (upd gB bo.toNatClampNeg (nm_out (gB bo.toNatClampNeg) p)))) = hp1
  have hG1 : ab_h nm_GH hp1 := by
    rw [← hh1]
    refine ac_h_arr hG hB rfl ⟨rfl, rfl, fun j hj => ?_⟩
    refine ⟨rfl, ?_⟩
    simp only [upd]
    split
    · exact ⟨ho.1, Int.le_trans ho.2 hw.2⟩
    · exact bB j hj
  have hx1 : hp1[69]? = some (.inr (9, fs)) := by rw [← hh1, List.getElem?_set_ne (by decide)]; exact hx
  have hB1 : hp1[na_inBag]? = some (.inl (nr_inBag, 2, .inl (upd gB bo.toNatClampNeg (nm_out (gB bo.toNatClampNeg) p)))) := by rw [← hh1]; exact List.getElem?_set_self hl88
  generalize hlv : ([(3, .int bo), (0, .ref 69), (1, .int d), (2, .int p)] : List (Nat × Value)) = lv
  have k0 : px_find 0 lv = some (.ref 69) := by rw [← hlv]; rfl
  have k1 : px_find 1 lv = some (.int d) := by rw [← hlv]; rfl
  have k2 : px_find 2 lv = some (.int p) := by rw [← hlv]; rfl
  have k3 : px_find 3 lv = some (.int bo) := by rw [← hlv]; rfl
  have head : ∀ (r : Int32) (hp' : px_H), px_Z nm_T none nm_P mm_M_takes 21 lv [] hp1 (some (.int r)) hp' → px_C nm_T nm_P mi_M_takes [.ref 69, .int d, .int p] hp (some (.int r)) hp' := by
    intro r hp' h
    subst hlv
    refine px_C_of (N := mm_M_takes) rfl (Nat.le_of_ble_eq_true rfl) ?_
    refine px_Z_its (pc1 := 1) (lv1 := [(0, .ref 69), (1, .int d), (2, .int p)]) (st1 := [.ref 69]) (hp1 := hp) 1 (fun _ _ _ _ => rfl) ?_
    refine px_q_get (len := 3) (ci := 9) (k := nf_bagOf) (fs := fs) (v := .ref na_bagOf) rfl rfl hx (nm_f hG hx rfl) ?_
    refine px_Z_its (pc1 := 5) (lv1 := [(0, .ref 69), (1, .int d), (2, .int p)]) (st1 := [.int d, .ref na_bagOf]) (hp1 := hp) 1 (fun _ _ _ _ => rfl) ?_
    refine px_q_iald (len := 1) rfl hO rfl iO ?_
    rw [hbo]
    refine px_Z_its (pc1 := 8) (lv1 := [(3, .int bo), (0, .ref 69), (1, .int d), (2, .int p)]) (st1 := [.ref 69]) (hp1 := hp) 2 (fun _ _ _ _ => rfl) ?_
    refine px_q_get (len := 3) (ci := 9) (k := nf_inBag) (fs := fs) (v := .ref na_inBag) rfl rfl hx (nm_f hG hx rfl) ?_
    refine px_Z_its (pc1 := 13) (lv1 := [(3, .int bo), (0, .ref 69), (1, .int d), (2, .int p)]) (st1 := [.int bo, .ref na_inBag, .int bo, .ref na_inBag]) (hp1 := hp) 2 (fun _ _ _ _ => rfl) ?_
    refine px_q_iald (len := 1) rfl hB rfl iB ?_
    refine px_Z_its (pc1 := 20) (lv1 := [(3, .int bo), (0, .ref 69), (1, .int d), (2, .int p)]) (st1 := [.int (nm_out (gB bo.toNatClampNeg) p), .int bo, .ref na_inBag]) (hp1 := hp) 6 (fun _ _ _ _ => rfl) ?_
    refine px_q_iast (len := 1) rfl hB rfl iB ?_
    rw [hh1]
    exact h
  obtain ⟨r1, hq, o1, c1, c2, c3, c4, -, -, c7⟩ := kp_M_isDead_0 [.ref 69, .int p, .int d] hp1 hG1 ⟨⟨rfl, List.mem_cons_self⟩, ⟨rfl, p0, p9⟩, ⟨rfl, d0, d5⟩, trivial⟩ (fun i hi => by cases hi)
  rw [px_fr_nil hG1 c3 c7] at c2
  obtain ⟨v1, rfl⟩ : ∃ v : Int32, r1 = some (.int v) := by
    cases List.mem_singleton.mp c1
    cases r1 with
    | none => exact absurd c4 (by simp [ac_rv])
    | some v => obtain ⟨x, rfl, -⟩ := ab_f0 c4; exact ⟨x, rfl⟩
  have dead : ∀ (r : Int32) (hp' : px_H), px_Z nm_T none nm_P mm_M_takes 27 lv [.int v1] hp1 (some (.int r)) hp' → px_Z nm_T none nm_P mm_M_takes 21 lv [] hp1 (some (.int r)) hp' := by
    intro r hp' h
    refine px_Z_its (pc1 := 24) (lv1 := lv) (st1 := [.int d, .int p, .ref 69]) (hp1 := hp1) 3 (fun _ _ _ _ => by subst hlv; rfl) ?_
    exact px_q_virt (len := 3) (n := 2) (a := 69) (N := mm_M_isDead) (mi := mi_M_isDead) (ci := 9) rfl rfl rfl hx1 rfl (Nat.le_of_ble_eq_true rfl) (Nat.le_of_ble_eq_true rfl) rfl rfl c2 h
  by_cases hv : v1 = 0
  · obtain ⟨r2, hq, o2, f1, f2, f3, f4, -, -, f7⟩ := kp_M_barredBy_0 [.ref 69, .int p, .int d] hp1 hG1 ⟨⟨rfl, List.mem_cons_self⟩, ⟨rfl, p0, p9⟩, ⟨rfl, d0, d5⟩, trivial⟩ (fun i hi => by cases hi)
    rw [px_fr_nil hG1 f3 f7] at f2
    obtain ⟨v4, rfl, v6⟩ : ∃ v : Int32, r2 = some (.int v) ∧ v.toInt ≤ 6 := by
      cases List.mem_singleton.mp f1
      cases r2 with
      | none => exact absurd f4 (by simp [ac_rv])
      | some v => obtain ⟨x, rfl, hx⟩ := ab_f0 f4; exact ⟨x, rfl, hx.2⟩
    have bar : ∀ (r : Int32) (hp' : px_H), px_Z nm_T none nm_P mm_M_takes 42 ((4, .int v4) :: lv) [.int v4] hp1 (some (.int r)) hp' → px_C nm_T nm_P mi_M_takes [.ref 69, .int d, .int p] hp (some (.int r)) hp' := by
      intro r hp' h
      refine head r hp' (dead r hp' ?_)
      refine px_q_if (bb := true) (len := 3) (c := .eq) (off := 5) rfl (by simp [px_cmp, hv]) ?_
      refine px_Z_its (pc1 := 35) (lv1 := lv) (st1 := [.int d, .int p, .ref 69]) (hp1 := hp1) 3 (fun _ _ _ _ => by subst hlv; rfl) ?_
      refine px_q_virt (len := 3) (n := 2) (a := 69) (N := mm_M_barredBy) (mi := mi_M_barredBy) (ci := 9) rfl rfl rfl hx1 rfl (Nat.le_of_ble_eq_true rfl) (Nat.le_of_ble_eq_true rfl) rfl rfl f2 ?_
      exact px_Z_its (pc1 := 42) (lv1 := (4, .int v4) :: lv) (st1 := [.int v4]) (hp1 := hp1) 2 (fun _ _ _ _ => by subst hlv; rfl) h
    have k4 : px_find 4 ((4, .int v4) :: lv) = some (.int v4) := rfl
    have q0 : px_find 0 ((4, .int v4) :: lv) = some (.ref 69) := k0
    have q1 : px_find 1 ((4, .int v4) :: lv) = some (.int d) := k1
    have q2 : px_find 2 ((4, .int v4) :: lv) = some (.int p) := k2
    have q3 : px_find 3 ((4, .int v4) :: lv) = some (.int bo) := k3
    by_cases hr4 : 0 ≤ v4.toInt
    · obtain ⟨hp', z1, z2⟩ := tk_68 (p := p) hG1 q0 q1 q2 q3 k4 d0 d5 p0 p9 b0 b1 hr4 v6
      obtain ⟨fs', e1, e2, e3⟩ := z2.2 69 9 fs hx1
      refine ⟨0, hp', fs', bar 0 hp' ?_, Or.inl rfl, z2.1 na_inBag _ (by decide) hB1, e1, ?_⟩
      · refine px_q_if (bb := true) (len := 3) (c := .ge) (off := 26) rfl ?_ z1
        simp only [px_cmp, decide_eq_true_eq, ge_iff_le, Int32.le_iff_toInt_le, Int32.toInt_zero]
        exact hr4
      · rw [e3 nf_sitting (by decide), if_neg (by decide)]
        exact hs
    · obtain ⟨gL, hL0, -⟩ := ac_arrI hG1 (c := na_satLast) (t := nr_satLast) (n := 10) (lo := (-2147483648)) (hi := 2147483647) (Nat.le_of_ble_eq_true rfl) rfl
      have hks : nf_sitting < fs.length := (List.getElem?_eq_some_iff.mp hs).1
      have hl69 : 69 < hp1.length := (List.getElem?_eq_some_iff.mp hx1).1
      generalize hfs : fs.set nf_sitting (.int (sv ||| nm_bit p)) = fs2
      generalize hh2 : hp1.set 69 (.inr (9, fs2)) = hp2
      have hx2 : hp2[69]? = some (.inr (9, fs2)) := by rw [← hh2]; exact List.getElem?_set_self hl69
      have hL2 : hp2[na_satLast]? = some (.inl (nr_satLast, 10, .inl gL)) := by rw [← hh2, List.getElem?_set_ne (by decide)]; exact hL0
      have hB2 : hp2[na_inBag]? = some (.inl (nr_inBag, 2, .inl (upd gB bo.toNatClampNeg (nm_out (gB bo.toNatClampNeg) p)))) := by rw [← hh2, List.getElem?_set_ne (by decide)]; exact hB1
      have hsl : fs2[nf_satLast]? = some (.ref na_satLast) := by rw [← hfs, List.getElem?_set_ne (by decide)]; exact nm_f hG1 hx1 rfl
      have hss : fs2[nf_sitting]? = some (.int (sv ||| nm_bit p)) := by rw [← hfs]; exact List.getElem?_set_self hks
      refine ⟨1, hp2.set na_satLast (.inl (nr_satLast, 10, .inl (upd gL p.toNatClampNeg (d + 1)))), fs2, bar 1 _ ?_, Or.inr rfl, ?_, ?_, ?_⟩
      · refine px_q_if (bb := false) (len := 3) (c := .ge) (off := 26) rfl ?_ ?_
        · simp only [px_cmp, decide_eq_false_iff_not, ge_iff_le, Int32.le_iff_toInt_le, Int32.toInt_zero]
          exact hr4
        refine px_Z_its (pc1 := 47) (lv1 := (4, .int v4) :: lv) (st1 := [.ref 69, .ref 69]) (hp1 := hp1) 2 (fun _ _ _ _ => by subst hlv; rfl) ?_
        refine px_q_get (len := 3) (ci := 9) (k := nf_sitting) (fs := fs) (v := .int sv) rfl rfl hx1 hs ?_
        refine px_Z_its (pc1 := 54) (lv1 := (4, .int v4) :: lv) (st1 := [.int (sv ||| nm_bit p), .ref 69]) (hp1 := hp1) 4 (fun _ _ _ _ => by subst hlv; rfl) ?_
        refine px_q_putf (len := 3) (ci := 9) (k := nf_sitting) (fs := fs) rfl rfl hx1 hks rfl rfl rfl rfl ?_
        rw [hfs, hh2]
        refine px_Z_its (pc1 := 58) (lv1 := (4, .int v4) :: lv) (st1 := [.ref 69]) (hp1 := hp2) 1 (fun _ _ _ _ => by subst hlv; rfl) ?_
        refine px_q_get (len := 3) (ci := 9) (k := nf_satLast) (fs := fs2) (v := .ref na_satLast) rfl rfl hx2 hsl ?_
        refine px_Z_its (pc1 := 65) (lv1 := (4, .int v4) :: lv) (st1 := [.int (d + 1), .int p, .ref na_satLast]) (hp1 := hp2) 4 (fun _ _ _ _ => by subst hlv; rfl) ?_
        refine px_q_iast (len := 1) rfl hL2 rfl (nm_ixR p 10 p0 (by omega)) ?_
        refine px_Z_its (pc1 := 67) (lv1 := (4, .int v4) :: lv) (st1 := [.int 1]) (hp1 := hp2.set na_satLast (.inl (nr_satLast, 10, .inl (upd gL p.toNatClampNeg (d + 1))))) 1 (fun _ _ _ _ => rfl) ?_
        exact px_q_iret (len := 1) (ty := .boolean) rfl rfl rfl
      · rw [List.getElem?_set_ne (by decide)]; exact hB2
      · rw [List.getElem?_set_ne (by decide)]; exact hx2
      · rw [if_pos rfl]; exact hss
  · refine ⟨0, hp1, fs, head 0 hp1 (dead 0 hp1 ?_), Or.inl rfl, hB1, hx1, ?_⟩
    · refine px_q_if (bb := false) (len := 3) (c := .eq) (off := 5) rfl (by simp [px_cmp, hv]) ?_
      refine px_Z_its (pc1 := 31) (lv1 := lv) (st1 := [.int 0]) (hp1 := hp1) 1 (fun _ _ _ _ => rfl) ?_
      exact px_q_iret (len := 1) (ty := .boolean) rfl rfl rfl
    · rw [if_neg (by decide)]; exact hs
