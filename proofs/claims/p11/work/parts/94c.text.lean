/-! end, rule, other: the length of the text -/
abbrev ext_end : ex_T := [((12, 1), (69, 22))]
def exX_end : ex_M := ([], [], kc_X_end_0.2.2.2.2.1, kc_X_end_0.2.2.2.2.2, mi_X_end, kc_X_end_0.2.1)
def exM_end : ex_M := ([], [], kc_M_end_0.2.2.2.2.1, kc_M_end_0.2.2.2.2.2, mi_M_end, kc_M_end_0.2.1)
def exX_endn (lo hi : Int) : ex_M := ([], [], kc_X_end_0.2.2.2.2.1, kc_X_end_0.2.2.2.2.2, mi_X_end, [(2, 0, 0, [0]), (0, lo, hi, [])])
def exM_endn (lo hi : Int) : ex_M := ([], [], kc_M_end_0.2.2.2.2.1, kc_M_end_0.2.2.2.2.2, mi_M_end, [(2, 0, 0, [69]), (0, lo, hi, [])])
def exo_end (lo hi : Int) : List ac_O × List ac_O := ([(12, 1, 0, lo, hi, [])], [(69, 22, 0, lo, hi, [])])
set_option maxRecDepth 1000000 in
theorem exA_end : (List.range 41).all (fun z => ex_ck (exX_endn (-2147483648) (-1)) (exM_endn (-2147483648) (-1)) true ext_end (exo_end (z : Nat) (z : Nat))) = true := by decide +kernel
set_option maxRecDepth 1000000 in
theorem exB_end : (List.range 41).all (fun z => ex_ck (exX_endn ((z : Nat) + 1) 2147483647) (exM_endn ((z : Nat) + 1) 2147483647) true ext_end (exo_end (z : Nat) (z : Nat))) = true := by decide +kernel
set_option maxRecDepth 1000000 in
theorem exC_end : (List.range 41).all (fun z => ex_ck (exX_endn (z : Nat) (z : Nat)) (exM_endn (z : Nat) (z : Nat)) true ext_end (exo_end (z : Nat) 40)) = true := by decide +kernel
set_option maxRecDepth 1000000 in
theorem exw_end : ex_cov exX_end exM_end ext_end ex_tr = true := by decide +kernel
theorem ex_end {hp : px_H} {a1 : Int32} (hG : ab_h nm_GH hp) (hR : ex_R ex_tr hp) : ex_two' exX_end exM_end true ex_tr 0 69 [.int a1] hp := by
  obtain ⟨z, z1, z2⟩ := hR ((12, 1), (69, 22)) (by decide)
  obtain ⟨w, w1, w2, w3⟩ := ex_fv (c := 12) (k := 1) (by decide +kernel) hG
  rw [z1] at w1
  cases w1
  have w2 : 0 ≤ z.toInt := w2
  have w3 : z.toInt ≤ 40 := w3
  have hov : ∀ lo hi : Int, lo ≤ z.toInt → z.toInt ≤ hi → ac_ov (exo_end lo hi).1 hp ∧ ac_ov (exo_end lo hi).2 hp := by
    intro lo hi e1 e2
    constructor
    · intro q hq v hv
      cases List.mem_singleton.mp hq
      simp only at hv
      rw [z1] at hv
      cases hv
      exact ⟨rfl, e1, e2⟩
    · intro q hq v hv
      cases List.mem_singleton.mp hq
      simp only at hv
      rw [z2] at hv
      cases hv
      exact ⟨rfl, e1, e2⟩
  have no : ∀ κ ∈ ([] : List ac_K), nm_ok κ := fun _ h => absurd h List.not_mem_nil
  have av : ∀ (lo hi : Int) (c : Nat), lo ≤ a1.toInt → a1.toInt ≤ hi → ac_argv [(2, 0, 0, [c]), (0, lo, hi, [])] [.ref c, .int a1] := fun lo hi c e1 e2 => ⟨⟨rfl, List.mem_cons_self⟩, ⟨rfl, e1, e2⟩, trivial⟩
  by_cases h1 : a1.toInt < 0
  · exact ex_two1 (X := exX_endn (-2147483648) (-1)) (M := exM_endn (-2147483648) (-1)) no no (List.all_eq_true.mp exA_end z.toInt.toNat (List.mem_range.mpr (by omega))) exw_end hG hR (hov _ _ (by omega) (by omega)).1 (hov _ _ (by omega) (by omega)).2 (av _ _ 0 (ab_i32 a1).1 (by omega)) (av _ _ 69 (ab_i32 a1).1 (by omega))
  by_cases h2 : z.toInt < a1.toInt
  · exact ex_two1 (X := exX_endn ((z.toInt.toNat : Nat) + 1) 2147483647) (M := exM_endn ((z.toInt.toNat : Nat) + 1) 2147483647) no no (List.all_eq_true.mp exB_end z.toInt.toNat (List.mem_range.mpr (by omega))) exw_end hG hR (hov _ _ (by omega) (by omega)).1 (hov _ _ (by omega) (by omega)).2 (av _ _ 0 (by omega) (ab_i32 a1).2) (av _ _ 69 (by omega) (ab_i32 a1).2)
  · exact ex_two1 (X := exX_endn (a1.toInt.toNat : Nat) (a1.toInt.toNat : Nat)) (M := exM_endn (a1.toInt.toNat : Nat) (a1.toInt.toNat : Nat)) no no (List.all_eq_true.mp exC_end a1.toInt.toNat (List.mem_range.mpr (by omega))) exw_end hG hR (hov _ _ (by omega) (by omega)).1 (hov _ _ (by omega) (by omega)).2 (av _ _ 0 (by omega) (by omega)) (av _ _ 69 (by omega) (by omega))
/-- the relation behind two calls of which each leaves its own field of one pair -/
theorem ex_fin2 {trF : ex_T} {wsX wsM : List (Nat × Nat)} {waX waM : List Nat} {hp hp1 hp2 : px_H} {c k c' k' : Nat} {w w' : Int32} (f1 : px_fr wsX waX hp hp1) (f2 : px_fr wsM waM hp1 hp2) (hR : ex_R trF hp) (h1 : ac_fv hp1 c k = some (.int w)) (h2 : ac_fv hp2 c' k' = some (.int w')) (hw : w.toInt = w'.toInt) (hf : ac_has wsM c k = false)
    (hc : trF.all (fun q => ex_qeq q ((c, k), (c', k')) || (ex_fre [q] wsX && ex_fre [q] wsM)) = true) : ex_R trF hp2 := by
  intro q hq
  have := List.all_eq_true.mp hc q hq
  rw [Bool.or_eq_true] at this
  rcases this with h9 | h9
  · have e := ex_qeq_ok h9
    subst e
    have : w = w' := by rw [← Int32.toInt_inj, hw]
    subst this
    exact ⟨w, ex_fv_fr f2 hf h1, h2⟩
  · rw [Bool.and_eq_true] at h9
    have r0 : ex_R [q] hp := fun q' hq' => by
      cases List.mem_singleton.mp hq'
      exact hR _ hq
    exact ex_R_fr f2 h9.2 (ex_R_fr f1 h9.1 r0) q (List.mem_singleton.mpr rfl)
theorem ex_thr {hp : px_H} (hG : ab_h nm_GH hp) : ∃ fs : List Value, hp[69]? = some (.inr (9, fs)) ∧ nf_thrown < fs.length ∧ ab_h nm_GH (hp.set 69 (.inr (9, fs.set nf_thrown (.int 0)))) ∧ px_fr [(69, nf_thrown)] [] hp (hp.set 69 (.inr (9, fs.set nf_thrown (.int 0)))) := by
  obtain ⟨fs, hx, -, -⟩ := ac_obj hG (c := 69) rfl
  obtain ⟨t, ht, -⟩ := nm_fI hG hx (k := nf_thrown) (a := 0) (b := 1) rfl
  exact ⟨fs, hx, (List.getElem?_eq_some_iff.mp ht).1, nm_h_obj hG hx (f := (0, 0, 1, [])) (fun FS h => by cases h; rfl) ⟨rfl, by decide, by decide⟩, px_fr_obj hx (by decide)⟩
def exX_rule : ex_M := ([kc_Text_firstFault_0, kc_Rule_read_0], [], kc_X_rule_0.2.2.2.2.1, kc_X_rule_0.2.2.2.2.2, mi_X_rule, kc_X_rule_0.2.1)
def exM_rule : ex_M := ([], [], kc_M_rule_0.2.2.2.2.1, kc_M_rule_0.2.2.2.2.2, mi_M_rule, kc_M_rule_0.2.1)
def exX_other : ex_M := ([kc_Text_firstFault_0, kc_Rule_read_0], [], kc_X_other_0.2.2.2.2.1, kc_X_other_0.2.2.2.2.2, mi_X_other, kc_X_other_0.2.1)
def exM_other : ex_M := ([], [], kc_M_other_0.2.2.2.2.1, kc_M_other_0.2.2.2.2.2, mi_M_other, kc_M_other_0.2.1)
set_option maxRecDepth 1000000 in
theorem exv_rule : ex_ck1 exX_rule 12 1 0 = true := by decide +kernel
set_option maxRecDepth 1000000 in
theorem exv_other : ex_ck1 exX_other 12 1 0 = true := by decide +kernel
theorem exk_rule : ∀ κ ∈ [kc_Text_firstFault_0, kc_Rule_read_0], nm_ok κ := List.forall_mem_cons.mpr ⟨kp_Text_firstFault_0, List.forall_mem_cons.mpr ⟨kp_Rule_read_0, fun _ h => absurd h List.not_mem_nil⟩⟩
theorem ex_rule {hp : px_H} (hG : ab_h nm_GH hp) (hR : ex_R ex_tr hp) : ex_two' exX_rule exM_rule false ex_tr 0 69 [] hp := by
  obtain ⟨v, w, hp1, c1, g1, f1, w1, w2⟩ := ex_ck1_ok (X := exX_rule) (av := [.ref 0]) exk_rule exv_rule hG ⟨⟨rfl, List.mem_cons_self⟩, trivial⟩
  obtain ⟨fs, hx, hk, hG2, f2⟩ := ex_thr g1
  have hx2 : (hp1.set 69 (.inr (9, fs.set nf_thrown (.int 0))))[69]? = some (.inr (9, fs.set nf_thrown (.int 0))) := List.getElem?_set_self (List.getElem?_eq_some_iff.mp hx).1
  generalize hh : hp1.set 69 (.inr (9, fs.set nf_thrown (.int 0))) = hpA at hG2 f2 hx2
  obtain ⟨v', w', hp2, c2, g2, f3, y1, y2⟩ := rt_main (av := [.ref 69, .int 0]) hG2 ⟨⟨rfl, List.mem_cons_self⟩, ⟨rfl, by decide, by decide⟩, trivial⟩
  have f4 : px_fr kc_M_rule_0.2.2.2.2.1 kc_M_rule_0.2.2.2.2.2 hp1 hp2 := px_fr_tr (px_fr_mono f2 (by decide) (by decide)) (px_fr_mono f3 (by decide) (by decide))
  refine ⟨v, v', hp1, hp2, c1, g1, ?_, g2, fun h => (by cases h), ex_fin2 f1 f4 hR w1 y1 (by rw [w2, y2]) (by decide +kernel) (by decide +kernel)⟩
  refine px_C_of (N := mm_M_rule) rfl (Nat.le_of_ble_eq_true rfl) ?_
  refine px_Z_its (pc1 := 2) (lv1 := [(0, .ref 69)]) (st1 := [.int 0, .ref 69]) (hp1 := hp1) 2 (fun _ _ _ _ => rfl) ?_
  refine px_q_putf (len := 3) (ci := 9) (k := nf_thrown) (fs := fs) rfl rfl hx hk rfl rfl rfl rfl ?_
  rw [hh]
  refine px_Z_its (pc1 := 7) (lv1 := [(0, .ref 69)]) (st1 := [.int 0, .ref 69]) (hp1 := hpA) 2 (fun _ _ _ _ => rfl) ?_
  refine px_q_virt (len := 3) (n := 1) (a := 69) (N := mm_M_readsRule) (mi := mi_M_readsRule) (ci := 9) rfl rfl rfl hx2 rfl (Nat.le_of_ble_eq_true rfl) (Nat.le_of_ble_eq_true rfl) rfl rfl c2 ?_
  exact px_q_iret (len := 1) (ty := .int) rfl rfl rfl
def eo_B : ac_S := ([], [((0, 1, 3, []), none), ((2, 0, 0, [69]), none)], [], [], [], [])
def eo_en : Bool := match ex_runS [] [] kc_M_other_0.2.2.2.2.1 kc_M_other_0.2.2.2.2.2 mi_M_other mm_M_other kc_M_other_0.2.1 [] [29] with
  | some o => o.1.all (ex_ze 69 22 0) && o.2.all (fun q => Nat.beq q.1 29 && ac_le nm_GH none q.2 eo_B)
  | none => false
set_option maxRecDepth 1000000 in
theorem eo_en_t : eo_en = true := by decide +kernel
theorem eo_M {hp : px_H} {a1 : Int32} (hG : ab_h nm_GH hp) : ∃ (v w : Int32) (hp' : px_H), px_C nm_T nm_P mi_M_other [.ref 69, .int a1] hp (some (.int v)) hp' ∧ ab_h nm_GH hp' ∧ px_fr kc_M_other_0.2.2.2.2.1 kc_M_other_0.2.2.2.2.2 hp hp' ∧ ac_fv hp' 69 22 = some (.int w) ∧ w.toInt = 0 := by
  have he := eo_en_t
  unfold eo_en at he
  split at he
  rotate_left
  · cases he
  rename_i o ho
  simp only [Bool.and_eq_true, List.all_eq_true] at he
  rcases ex_runS_ok (fun _ h => absurd h List.not_mem_nil) rfl (by decide +kernel) ho hG (av := [.ref 69, .int a1]) ⟨⟨rfl, List.mem_cons_self⟩, ⟨rfl, ab_i32 _⟩, trivial⟩ (fun q hq => (by cases hq)) with ⟨r, hp', q, m1, m2, m3, m4⟩ | ⟨pc', lv', st', hp1, A', m1, m2, m3, m4⟩
  · obtain ⟨v, w, rfl, w1, w2⟩ := ex_ze_ok (by decide +kernel) (he.1 q m1) m3
    exact ⟨v, w, hp', m2, m3.2.1, m4, w1, w2⟩
  · obtain ⟨q1, q2⟩ := he.2 _ m1
    have q1 := Nat.eq_of_beq_eq_true q1
    simp only at q1
    subst q1
    obtain ⟨γ2, -, h2, -⟩ := ac_le_ok q2 m2
    obtain ⟨b1, b2, b3, b4, -⟩ := h2
    match st', b2 with
    | [u, t], ⟨⟨s1, _⟩, ⟨s2, _⟩, _⟩ =>
      obtain ⟨pl, rfl, hpl⟩ := ab_f0 s1
      obtain ⟨c0, rfl, e0⟩ := ab_f2 s2
      cases List.mem_singleton.mp e0
      have p1 : 1 ≤ pl.toInt := hpl.1
      have p3 : pl.toInt ≤ 3 := hpl.2
      obtain ⟨fs, hx, -, -⟩ := ac_obj b3 (c := 69) rfl
      obtain ⟨v, w, hp2, c2, g2, f3, y1, y2⟩ := rt_main (av := [.ref 69, .int pl]) b3 ⟨⟨rfl, List.mem_cons_self⟩, ⟨rfl, by show (0 : Int) ≤ _; omega, by show _ ≤ (3 : Int); omega⟩, trivial⟩
      refine ⟨v, w, hp2, m4 _ _ ?_, g2, px_fr_tr m3 (px_fr_mono f3 (by decide) (by decide)), y1, y2⟩
      refine px_q_virt (len := 3) (n := 1) (a := 69) (N := mm_M_readsRule) (mi := mi_M_readsRule) (ci := 9) rfl rfl rfl hx rfl (Nat.le_of_ble_eq_true rfl) (Nat.le_of_ble_eq_true rfl) rfl rfl c2 ?_
      exact px_q_iret (len := 1) (ty := .int) rfl rfl rfl
theorem ex_other {hp : px_H} {a1 : Int32} (hG : ab_h nm_GH hp) (hR : ex_R ex_tr hp) : ex_two' exX_other exM_other false ex_tr 0 69 [.int a1] hp := by
  obtain ⟨v, w, hp1, c1, g1, f1, w1, w2⟩ := ex_ck1_ok (X := exX_other) (av := [.ref 0, .int a1]) exk_rule exv_other hG ⟨⟨rfl, List.mem_cons_self⟩, ⟨rfl, ab_i32 _⟩, trivial⟩
  obtain ⟨v', w', hp2, c2, g2, f2, y1, y2⟩ := eo_M (a1 := a1) g1
  exact ⟨v, v', hp1, hp2, c1, g1, c2, g2, fun h => (by cases h), ex_fin2 f1 f2 hR w1 y1 (by rw [w2, y2]) (by decide +kernel) (by decide +kernel)⟩
