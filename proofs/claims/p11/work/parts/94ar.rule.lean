/-! readsRule once more: at its end the tape is empty -/
abbrev rt_ws : List (Nat × Nat) := kc_M_readsRule_0.2.2.2.2.1
abbrev rt_wa : List Nat := kc_M_readsRule_0.2.2.2.2.2
abbrev rt_fs : List ab_F := kc_M_readsRule_0.2.1
def rt_b (A : ac_S) : ac_S := (A.1, A.2.1, (69, 22, 0, 0, 0, []) :: A.2.2.1, A.2.2.2)
abbrev rt_ok : ac_Out → Bool := ex_ze 69 22 0
abbrev rt_Bs : List ac_S := [rt_b kb_readsRule_0, rt_b kb_readsRule_1, rt_b kb_readsRule_2, rt_b kb_readsRule_3, rt_b kb_readsRule_4, rt_b kb_readsRule_5, rt_b kb_readsRule_6, rt_b kb_readsRule_7]
set_option maxRecDepth 1000000 in
theorem rt_0 : ac_pc1 nm_GH none kb_readsRule_f 43 rt_ok (rt_b kb_readsRule_0) [rt_b kb_readsRule_1, rt_b kb_readsRule_2, rt_b kb_readsRule_3, rt_b kb_readsRule_4, rt_b kb_readsRule_5, rt_b kb_readsRule_6, rt_b kb_readsRule_7] = true := by decide +kernel
set_option maxRecDepth 1000000 in
theorem rt_1 : ac_pc1 nm_GH none kb_readsRule_f 43 rt_ok (rt_b kb_readsRule_1) [rt_b kb_readsRule_2, rt_b kb_readsRule_3, rt_b kb_readsRule_4, rt_b kb_readsRule_5, rt_b kb_readsRule_6, rt_b kb_readsRule_7] = true := by decide +kernel
set_option maxRecDepth 1000000 in
theorem rt_2 : ac_pc1 nm_GH none kb_readsRule_f 43 rt_ok (rt_b kb_readsRule_2) [rt_b kb_readsRule_3, rt_b kb_readsRule_4, rt_b kb_readsRule_5, rt_b kb_readsRule_6, rt_b kb_readsRule_7] = true := by decide +kernel
set_option maxRecDepth 1000000 in
theorem rt_3 : ac_pc1 nm_GH none kb_readsRule_f 43 rt_ok (rt_b kb_readsRule_3) [rt_b kb_readsRule_4, rt_b kb_readsRule_5, rt_b kb_readsRule_6, rt_b kb_readsRule_7] = true := by decide +kernel
set_option maxRecDepth 1000000 in
theorem rt_4 : ac_pc1 nm_GH none kb_readsRule_f 43 rt_ok (rt_b kb_readsRule_4) [rt_b kb_readsRule_5, rt_b kb_readsRule_6, rt_b kb_readsRule_7] = true := by decide +kernel
set_option maxRecDepth 1000000 in
theorem rt_5 : ac_pc1 nm_GH none kb_readsRule_f 43 rt_ok (rt_b kb_readsRule_5) [rt_b kb_readsRule_6, rt_b kb_readsRule_7] = true := by decide +kernel
set_option maxRecDepth 1000000 in
theorem rt_6 : ac_pc1 nm_GH none kb_readsRule_f 43 rt_ok (rt_b kb_readsRule_6) [rt_b kb_readsRule_7] = true := by decide +kernel
set_option maxRecDepth 1000000 in
theorem rt_7 : ac_pc1 nm_GH none kb_readsRule_f 43 rt_ok (rt_b kb_readsRule_7) [] = true := by decide +kernel
def rt_en : Bool := match ex_runS [] [kl_M_readsRule_153] rt_ws rt_wa mi_M_readsRule mm_M_readsRule rt_fs [] [43] with
  | some o => o.1.all rt_ok && o.2.all (fun q => Nat.beq q.1 43 && rt_Bs.any (fun B => ac_le nm_GH none q.2 B))
  | none => false
set_option maxRecDepth 1000000 in
theorem rt_en_t : rt_en = true := by decide +kernel
theorem rt_main {av : List Value} {hp : px_H} (hG : ab_h nm_GH hp) (hav : ac_argv rt_fs av) : ∃ (v w : Int32) (hp' : px_H), px_C nm_T nm_P mi_M_readsRule av hp (some (.int v)) hp' ∧ ab_h nm_GH hp' ∧ px_fr rt_ws rt_wa hp hp' ∧ ac_fv hp' 69 22 = some (.int w) ∧ w.toInt = 0 := by
  have fin : (∃ (r : Option Value) (hp' : px_H) (oc : ac_Out), rt_ok oc = true ∧ px_C nm_T nm_P mi_M_readsRule av hp r hp' ∧ ac_o' nm_GH nm_Φ (ac_xs av) oc r hp' ∧ px_fr rt_ws rt_wa hp hp') → ∃ (v w : Int32) (hp' : px_H), px_C nm_T nm_P mi_M_readsRule av hp (some (.int v)) hp' ∧ ab_h nm_GH hp' ∧ px_fr rt_ws rt_wa hp hp' ∧ ac_fv hp' 69 22 = some (.int w) ∧ w.toInt = 0 := by
    rintro ⟨r, hp', oc, h1, h2, h3, h4⟩
    obtain ⟨v, w, rfl, w1, w2⟩ := ex_ze_ok (by decide +kernel) h1 h3
    exact ⟨v, w, hp', h2, h3.2.1, h4, w1, w2⟩
  refine fin ?_
  have he := rt_en_t
  unfold rt_en at he
  split at he
  rotate_left
  · cases he
  rename_i o ho
  simp only [Bool.and_eq_true, List.all_eq_true] at he
  rcases ex_runS_ok (fun _ h => absurd h List.not_mem_nil) rfl (by decide +kernel) ho hG hav (fun q hq => (by cases hq)) with ⟨r, hp', q, m1, m2, m3, m4⟩ | ⟨pc', lv', st', hp1, A', m1, m2, m3, m4⟩
  · exact ⟨r, hp', q, he.1 q m1, m2, m3, m4⟩
  · obtain ⟨q1, q2⟩ := he.2 _ m1
    have q1 := Nat.eq_of_beq_eq_true q1
    simp only at q1
    subst q1
    obtain ⟨B, hB, hle⟩ := List.any_eq_true.mp q2
    obtain ⟨γ', g1, g2, g3⟩ := ac_le_ok hle m2
    obtain ⟨y, e1, e2, e3⟩ := ac_pcs_ok (G := nm_GH) (ctr := none) (f := kb_readsRule_f) (pc := 43) (ok := rt_ok) (Bs := rt_Bs) ⟨rt_0, rt_1, rt_2, rt_3, rt_4, rt_5, rt_6, rt_7, trivial⟩
    have hG2 := ac_go_ok (T := nm_T) (X := none) (P := nm_P) (M := mm_M_readsRule) (Φ := nm_Φ) (ws := rt_ws) (wa := rt_wa) (xs := ac_xs av) (γ := fun _ => 0) (fun B o hB γ' lv st hp hs => ac_run_ok (xs := ac_xs av) nm_Fl nm_FG (fun _ h => absurd h List.not_mem_nil) 20000 true [43] mi_M_readsRule mm_M_readsRule 43 B o none γ' lv st hp hB hs) rt_Bs y e1 B hB γ' lv' st' hp1 g1 g2 g3
    rcases hG2 with ⟨r, hp2, oc, n1, n2, n3, hr⟩ | ⟨pc2, lv2, st2, hp2, A2, n1, -⟩
    · exact ⟨r, hp2, oc, e2 oc n1, m4 _ _ hr, n2, px_fr_tr m3 n3⟩
    · rw [e3] at n1
      cases n1
