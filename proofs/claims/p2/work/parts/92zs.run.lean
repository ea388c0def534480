/-! run: the contract -/
def ru_B0 : ac_S := ([(0, ((2, 0, 0, [69]), none)), (1, ((0, 0, 5, []), none)), (2, ((0, 0, 0, []), none)), (3, ((0, 0, 0, []), none))], [], [(69, nf_sitting, (0, 0, 0, []))], ac_gh kc_M_run_0.2.1, [], [])
def ru_en : Bool := match ac_run nm_T nm_P nm_GH nm_FA [kc_M_barredBy_0] [kl_M_opens_57] ru_ws ru_wa 20000 false [32] mi_M_run mm_M_run 0 (ab_args 0 (ac_ini 0 kc_M_run_0.2.1), [], [], ac_gh kc_M_run_0.2.1, kc_M_run_0.2.2.1, []) with
  | some o => o.1.all (fun q => match q.1 with | some a => ab_le a.1 (0, -1, 3, []) | none => false) && o.2.all (fun q => Nat.beq q.1 32 && ac_le nm_GH none q.2 ru_B0)
  | none => false
set_option maxRecDepth 1000000 in
theorem ru_en_t : ru_en = true := by decide +kernel
theorem kp_M_run_0 : nm_ok kc_M_run_0 := by
  intro av hp hG hgs hfl
  have hst : ab_st (ac_xs av) (lv_args 0 av) hp (ac_ini 0 kc_M_run_0.2.1) av := ac_ini_ok hgs (fun j => by rw [Nat.zero_add])
  obtain ⟨v, rfl, hv⟩ := nm_arg1 hgs
  obtain ⟨c, rfl, hc⟩ := ab_f2 hv
  cases List.mem_singleton.mp hc
  have hxx : ab_x (ac_gh kc_M_run_0.2.1) (ac_xs [.ref 69]) := by
    intro j q hq
    match j, hq with
    | 0, hq => cases hq; exact ab_i32 _
    | j + 1, hq => simp [ac_gh, kc_M_run_0] at hq
  have fin : (∃ (r : Int32) (hp' : px_H), px_Z nm_T none nm_P mm_M_run 0 (lv_args 0 [.ref 69]) [] hp (some (.int r)) hp' ∧ -1 ≤ r.toInt ∧ r.toInt ≤ 3 ∧ ab_h nm_GH hp' ∧ px_fr ru_ws ru_wa hp hp') →
      ∃ (r : Option Value) (hp' : px_H) (o : Option ab_F × List (Nat × ab_B) × List Nat), o ∈ kc_M_run_0.2.2.2.1 ∧ px_C nm_T nm_P kc_M_run_0.1 [.ref 69] hp r hp' ∧ ab_h nm_GH hp' ∧ ac_rv o.1 r ∧ (∀ q ∈ o.2.1, ∃ v z, [Value.ref 69][q.1]? = some v ∧ ab_num v = some z ∧ ab_in q.2 z) ∧ (∀ i ∈ o.2.2, nm_Φ i hp') ∧ px_fr kc_M_run_0.2.2.2.2.1 kc_M_run_0.2.2.2.2.2 hp hp' := by
    rintro ⟨r, hp', z1, z2, z3, z4, z5⟩
    exact ⟨some (.int r), hp', _, List.mem_cons_self, px_C_of (N := mm_M_run) rfl (Nat.le_of_ble_eq_true rfl) z1, z4, ⟨rfl, z2, z3⟩, fun q hq => (by cases hq), fun i hi => (by cases hi), z5⟩
  refine fin ?_
  have hen := ru_en_t
  unfold ru_en at hen
  split at hen
  rotate_left
  · cases hen
  rename_i o ho
  simp only [Bool.and_eq_true, List.all_eq_true] at hen
  rcases ac_run_ok (xs := ac_xs [.ref 69]) nm_Fl nm_FG (List.forall_mem_cons.mpr ⟨kp_M_barredBy_0, fun _ h => absurd h List.not_mem_nil⟩) 20000 false [32] mi_M_run mm_M_run 0 _ o none (fun _ => 0) (lv_args 0 [.ref 69]) [] hp ho ⟨fun j a hm => ab_args_ok 0 hst j a hm, trivial, hG, fun q hq => (by cases hq), hxx, hfl, fun q hq => (by cases hq)⟩ with ⟨r, hp', oc, m1, m2, m3, m4⟩ | ⟨pc', lv', st', hp', A', m1, m2, m3, m4⟩
  · have hs := hen.1 oc m1
    have g1 := m2.1
    cases hq : oc.1 with
    | none => rw [hq] at hs; cases hs
    | some a =>
      rw [hq] at hs g1
      cases r with
      | none => exact absurd g1 (by simp)
      | some v =>
        obtain ⟨x, rfl, hx⟩ := ab_f0 (ab_le_ok hs (show ab_f a.1 v from g1.1))
        exact ⟨x, hp', m4, hx.1, hx.2, m2.2.1, m3⟩
  · obtain ⟨q1, q2⟩ := hen.2 _ m1
    have q1 := Nat.eq_of_beq_eq_true q1
    simp only at q1
    subst q1
    obtain ⟨γ2, -, h2, -⟩ := ac_le_ok q2 m2
    obtain ⟨b1, b2, b3, b4, -⟩ := h2
    have est : st' = [] := by
      cases st' with
      | nil => rfl
      | cons v s => exact absurd b2 (by simp [ru_B0, ab_st])
    subst est
    obtain ⟨v0, l0, f0⟩ := b1 0 _ (List.mem_cons_self)
    obtain ⟨v1, l1, f1⟩ := b1 1 _ (List.mem_cons_of_mem _ List.mem_cons_self)
    obtain ⟨v2, l2, f2⟩ := b1 2 _ (List.mem_cons_of_mem _ (List.mem_cons_of_mem _ List.mem_cons_self))
    obtain ⟨v3, l3, f3⟩ := b1 3 _ (List.mem_cons_of_mem _ (List.mem_cons_of_mem _ (List.mem_cons_of_mem _ List.mem_cons_self)))
    obtain ⟨c0, rfl, e0⟩ := ab_f2 f0.1
    cases List.mem_singleton.mp e0
    obtain ⟨d, rfl, hd⟩ := ab_f0 f1.1
    obtain ⟨n, rfl, hn⟩ := ab_f0 f2.1
    obtain ⟨k, rfl, hk⟩ := ab_f0 f3.1
    obtain ⟨fs, hx, -, -⟩ := ac_obj b3 (c := 69) rfl
    obtain ⟨sv, hs, -, -⟩ := nm_fI b3 hx (k := nf_sitting) (a := 0) (b := 1023) rfl
    have hsv := b4 (69, nf_sitting, (0, 0, 0, [])) List.mem_cons_self (.int sv) (by simp only [ac_fv, hx]; exact hs)
    obtain ⟨gB, hB, bB⟩ := ac_arrI b3 (c := na_inBag) (t := nr_inBag) (n := 2) (lo := 0) (hi := 1023) (Nat.le_of_ble_eq_true rfl) rfl
    obtain ⟨gO, hO, bO⟩ := ac_arrI b3 (c := na_bagOf) (t := nr_bagOf) (n := 6) (lo := 0) (hi := 1) (Nat.le_of_ble_eq_true rfl) rfl
    obtain ⟨gS, hS, bS⟩ := ac_arrI b3 (c := na_seatsOf) (t := nr_seatsOf) (n := 6) (lo := 0) (hi := 3) (Nat.le_of_ble_eq_true rfl) rfl
    have hd0 := hd.1
    have hd5 := hd.2
    simp only at hd0 hd5
    have hdn : d.toNatClampNeg < 6 := by unfold Int32.toNatClampNeg; omega
    have hO2 := bO _ hdn
    have hS2 := bS _ hdn
    have hcl : ∀ b : Int32, b.toInt ≤ 1 → b.toNatClampNeg < 2 := fun b hb => by unfold Int32.toNatClampNeg; omega
    have hbn : (gO d.toNatClampNeg).toNatClampNeg < 2 := hcl _ hO2.2
    have hw := bB _ hbn
    have sv0 : sv = 0 := by
      rw [← Int32.toInt_inj, Int32.toInt_zero]
      have := hsv.2.1
      have := hsv.2.2
      simp only at *
      omega
    have n0 : n = 0 := by
      rw [← Int32.toInt_inj, Int32.toInt_zero]
      have := hn.1
      have := hn.2
      simp only at *
      omega
    have k0 : k.toInt = 0 := by
      have := hk.1
      have := hk.2
      simp only at *
      omega
    subst sv0
    subst n0
    have hbw : (nm_bc (gB (gO d.toNatClampNeg).toNatClampNeg)).toInt ≤ 10 := by
      by_cases hz : (gB (gO d.toNatClampNeg).toNatClampNeg).toInt = 0
      · rw [show gB (gO d.toNatClampNeg).toNatClampNeg = 0 from by rw [← Int32.toInt_inj, hz, Int32.toInt_zero]]
        decide
      · exact (nm_bc_10 _ (by omega) hw.2).2
    obtain ⟨r, hp9, z1, z2, z3, z4, z5⟩ := ru_loop hd0 hd5 rfl hO2.1 hO2.2 hS2.2 100 lv' hp' fs gB 0 0 k b3 hx hB hO hS hs l0 l1 l2 l3 (Int32.zero_and) (by decide) (by rw [Int32.toInt_zero]; exact hS2.1) (by omega) (by omega) (by omega)
    obtain ⟨n1, k1, h1⟩ := m4
    obtain ⟨n2, k2, h3⟩ := z1
    exact ⟨r, hp9, ⟨max n1 n2, k1 + k2, fun n9 hn9 N0 nc ns q1 q2 => px_its_run k1 (h1 n9 (by omega) N0 nc ns q1 q2) (h3 n9 (by omega) N0 nc ns q1 q2)⟩, z2, z3, z4, px_fr_tr m3 z5⟩
