/-! the law's cases, from 33 -/
section nm_lk
variable {p : Program} {l : Launch} {e : Env} {s : State} {m : MethodId} {below : List Frame} {meth : Method} {c : Code} {b L : Nat} {xs : Nat → Int32} {D : va_G} {dA : Nat → ClassId}
variable {i nc ns : Nat} {lv : List (Nat × Value)} {hp : px_H}
set_option maxRecDepth 100000
theorem lk_33 (C0 : lw_At p s m meth c b L xs) (hK : va_K D nm_cl (px_tys nm_T dA) s) (hl : nm_lvk lv i) (hi : i + 6 ≤ L) (hL : L ≤ 3072) (hG : ab_h nm_GH hp) (hR : nm_R hp) (q1 : nc ≤ nm_rc) (q2 : ns ≤ nm_rs) (h : ∀ hp' : px_H, ab_h nm_GH hp' → nm_R hp' → nm_G p l e s m below meth c b D dA (1686, lv, [], hp', nc, ns)) : nm_G p l e s m below meth c b D dA (1433, lv, [], hp, nc, ns) := by
  obtain ⟨v0, v1, hp1, hp2, c1, hG1, c2, hG2, hv, hR2⟩ := xp_war (a0 := xs (i + 1)) (a1 := xs (i + 2)) hG hR
  refine lw_aload C0 hK (j := 1) (a := 0) rfl hl.2.1 ?_
  refine lw_sc C0 hK (z := 1) 1 rfl rfl rfl rfl rfl rfl hl (by omega) hL ?_
  refine lw_sc C0 hK (z := 2) 2 rfl rfl rfl rfl rfl rfl hl (by omega) hL ?_
  refine lw_invC C0 hK (mi := mi_X_war) (n := 2) (a := 0) (N := mm_X_war) rfl rfl rfl rfl rfl (Nat.le_of_ble_eq_true rfl) (Nat.le_of_ble_eq_true rfl) rfl rfl hG c1 q1 q2 ?_
  refine lw_alu C0 hK (len := 1) rfl rfl ?_
  refine lw_aload C0 hK (j := 2) (a := 69) rfl hl.2.2.1 ?_
  refine lw_sc C0 hK (z := 1) 1 rfl rfl rfl rfl rfl rfl hl (by omega) hL ?_
  refine lw_sc C0 hK (z := 2) 2 rfl rfl rfl rfl rfl rfl hl (by omega) hL ?_
  refine lw_invC C0 hK (mi := mi_M_war) (n := 2) (a := 69) (N := mm_M_war) rfl rfl rfl rfl rfl (Nat.le_of_ble_eq_true rfl) (Nat.le_of_ble_eq_true rfl) rfl rfl hG1 c2 q1 q2 ?_
  refine lw_alu C0 hK (len := 1) rfl rfl ?_
  refine lw_goto C0 hK (off := 219) rfl ?_
  exact h hp2 hG2 hR2
theorem lk_34 (C0 : lw_At p s m meth c b L xs) (hK : va_K D nm_cl (px_tys nm_T dA) s) (hl : nm_lvk lv i) (hi : i + 6 ≤ L) (hL : L ≤ 3072) (hG : ab_h nm_GH hp) (hR : nm_R hp) (q1 : nc ≤ nm_rc) (q2 : ns ≤ nm_rs) (h : ∀ hp' : px_H, ab_h nm_GH hp' → nm_R hp' → nm_G p l e s m below meth c b D dA (1686, lv, [], hp', nc, ns)) : nm_G p l e s m below meth c b D dA (1470, lv, [], hp, nc, ns) := by
  refine lw_aload C0 hK (j := 1) (a := 0) rfl hl.2.1 ?_
  refine lw_sc C0 hK (z := 1) 1 rfl rfl rfl rfl rfl rfl hl (by omega) hL ?_
  refine lw_inv C0 hK kp_X_list_0 rfl (n := 1) (a := 0) (N := mm_X_list) rfl rfl rfl rfl rfl (Nat.le_of_ble_eq_true rfl) (Nat.le_of_ble_eq_true rfl) rfl rfl hG ⟨⟨rfl, List.mem_cons_self⟩, ⟨rfl, ab_i32 _⟩, trivial⟩ q1 q2 (fun r0 hp1 o0 ho0 hG1 hr0 hf0 hw0 => ?_)
  have hR1 : nm_R hp1 := nm_R_fr hG hG1 hw0 (show nm_Rf kc_X_list_0.2.2.2.2.1 kc_X_list_0.2.2.2.2.2 = true from by decide +kernel) hR
  obtain ⟨v0, rfl⟩ := nm_rI rfl ho0 hr0
  refine lw_alu C0 hK (len := 1) rfl rfl ?_
  refine lw_aload C0 hK (j := 2) (a := 69) rfl hl.2.2.1 ?_
  refine lw_sc C0 hK (z := 1) 1 rfl rfl rfl rfl rfl rfl hl (by omega) hL ?_
  refine lw_inv C0 hK kp_M_list_0 rfl (n := 1) (a := 69) (N := mm_M_list) rfl rfl rfl rfl rfl (Nat.le_of_ble_eq_true rfl) (Nat.le_of_ble_eq_true rfl) rfl rfl hG1 ⟨⟨rfl, List.mem_cons_self⟩, ⟨rfl, ab_i32 _⟩, trivial⟩ q1 q2 (fun r1 hp2 o1 ho1 hG2 hr1 hf1 hw1 => ?_)
  have hR2 : nm_R hp2 := nm_R_fr hG1 hG2 hw1 (show nm_Rf kc_M_list_0.2.2.2.2.1 kc_M_list_0.2.2.2.2.2 = true from by decide +kernel) hR1
  obtain ⟨v1, rfl⟩ := nm_rI rfl ho1 hr1
  refine lw_alu C0 hK (len := 1) rfl rfl ?_
  refine lw_goto C0 hK (off := 194) rfl ?_
  exact h hp2 hG2 hR2
theorem lk_35 (C0 : lw_At p s m meth c b L xs) (hK : va_K D nm_cl (px_tys nm_T dA) s) (hl : nm_lvk lv i) (hi : i + 6 ≤ L) (hL : L ≤ 3072) (hG : ab_h nm_GH hp) (hR : nm_R hp) (q1 : nc ≤ nm_rc) (q2 : ns ≤ nm_rs) (h : ∀ hp' : px_H, ab_h nm_GH hp' → nm_R hp' → nm_G p l e s m below meth c b D dA (1686, lv, [], hp', nc, ns)) : nm_G p l e s m below meth c b D dA (1495, lv, [], hp, nc, ns) := by
  refine lw_aload C0 hK (j := 1) (a := 0) rfl hl.2.1 ?_
  refine lw_inv C0 hK kp_X_wipe_0 rfl (n := 0) (a := 0) (N := mm_X_wipe) rfl rfl rfl rfl rfl (Nat.le_of_ble_eq_true rfl) (Nat.le_of_ble_eq_true rfl) rfl rfl hG ⟨⟨rfl, List.mem_cons_self⟩, trivial⟩ q1 q2 (fun r0 hp1 o0 ho0 hG1 hr0 hf0 hw0 => ?_)
  have hR1 : nm_R hp1 := nm_R_fr hG hG1 hw0 (show nm_Rf kc_X_wipe_0.2.2.2.2.1 kc_X_wipe_0.2.2.2.2.2 = true from by decide +kernel) hR
  obtain ⟨v0, rfl⟩ := nm_rI rfl ho0 hr0
  refine lw_alu C0 hK (len := 1) rfl rfl ?_
  refine lw_aload C0 hK (j := 2) (a := 69) rfl hl.2.2.1 ?_
  refine lw_inv C0 hK kp_M_wipe_0 rfl (n := 0) (a := 69) (N := mm_M_wipe) rfl rfl rfl rfl rfl (Nat.le_of_ble_eq_true rfl) (Nat.le_of_ble_eq_true rfl) rfl rfl hG1 ⟨⟨rfl, List.mem_cons_self⟩, trivial⟩ q1 q2 (fun r1 hp2 o1 ho1 hG2 hr1 hf1 hw1 => ?_)
  have hR2 : nm_R hp2 := nm_R_fr hG1 hG2 hw1 (show nm_Rf kc_M_wipe_0.2.2.2.2.1 kc_M_wipe_0.2.2.2.2.2 = true from by decide +kernel) hR1
  obtain ⟨v1, rfl⟩ := nm_rI rfl ho1 hr1
  refine lw_alu C0 hK (len := 1) rfl rfl ?_
  refine lw_goto C0 hK (off := 181) rfl ?_
  exact h hp2 hG2 hR2
theorem lk_36 (C0 : lw_At p s m meth c b L xs) (hK : va_K D nm_cl (px_tys nm_T dA) s) (hl : nm_lvk lv i) (hi : i + 6 ≤ L) (hL : L ≤ 3072) (hG : ab_h nm_GH hp) (hR : nm_R hp) (q1 : nc ≤ nm_rc) (q2 : ns ≤ nm_rs) (h : ∀ hp' : px_H, ab_h nm_GH hp' → nm_R hp' → nm_G p l e s m below meth c b D dA (1686, lv, [], hp', nc, ns)) : nm_G p l e s m below meth c b D dA (1508, lv, [], hp, nc, ns) := by
  refine lw_aload C0 hK (j := 1) (a := 0) rfl hl.2.1 ?_
  refine lw_sc C0 hK (z := 1) 1 rfl rfl rfl rfl rfl rfl hl (by omega) hL ?_
  refine lw_sc C0 hK (z := 2) 2 rfl rfl rfl rfl rfl rfl hl (by omega) hL ?_
  refine lw_inv C0 hK kp_X_old_0 rfl (n := 2) (a := 0) (N := mm_X_old) rfl rfl rfl rfl rfl (Nat.le_of_ble_eq_true rfl) (Nat.le_of_ble_eq_true rfl) rfl rfl hG ⟨⟨rfl, List.mem_cons_self⟩, ⟨rfl, ab_i32 _⟩, ⟨rfl, ab_i32 _⟩, trivial⟩ q1 q2 (fun r0 hp1 o0 ho0 hG1 hr0 hf0 hw0 => ?_)
  have hR1 : nm_R hp1 := nm_R_fr hG hG1 hw0 (show nm_Rf kc_X_old_0.2.2.2.2.1 kc_X_old_0.2.2.2.2.2 = true from by decide +kernel) hR
  obtain ⟨v0, rfl⟩ := nm_rI rfl ho0 hr0
  refine lw_alu C0 hK (len := 1) rfl rfl ?_
  refine lw_aload C0 hK (j := 2) (a := 69) rfl hl.2.2.1 ?_
  refine lw_sc C0 hK (z := 1) 1 rfl rfl rfl rfl rfl rfl hl (by omega) hL ?_
  refine lw_sc C0 hK (z := 2) 2 rfl rfl rfl rfl rfl rfl hl (by omega) hL ?_
  refine lw_inv C0 hK kp_M_old_0 rfl (n := 2) (a := 69) (N := mm_M_old) rfl rfl rfl rfl rfl (Nat.le_of_ble_eq_true rfl) (Nat.le_of_ble_eq_true rfl) rfl rfl hG1 ⟨⟨rfl, List.mem_cons_self⟩, ⟨rfl, ab_i32 _⟩, ⟨rfl, ab_i32 _⟩, trivial⟩ q1 q2 (fun r1 hp2 o1 ho1 hG2 hr1 hf1 hw1 => ?_)
  have hR2 : nm_R hp2 := nm_R_fr hG1 hG2 hw1 (show nm_Rf kc_M_old_0.2.2.2.2.1 kc_M_old_0.2.2.2.2.2 = true from by decide +kernel) hR1
  obtain ⟨v1, rfl⟩ := nm_rI rfl ho1 hr1
  refine lw_alu C0 hK (len := 1) rfl rfl ?_
  refine lw_goto C0 hK (off := 144) rfl ?_
  exact h hp2 hG2 hR2
theorem lk_37 (C0 : lw_At p s m meth c b L xs) (hK : va_K D nm_cl (px_tys nm_T dA) s) (hl : nm_lvk lv i) (hi : i + 6 ≤ L) (hL : L ≤ 3072) (hG : ab_h nm_GH hp) (hR : nm_R hp) (q1 : nc ≤ nm_rc) (q2 : ns ≤ nm_rs) (h : ∀ hp' : px_H, ab_h nm_GH hp' → nm_R hp' → nm_G p l e s m below meth c b D dA (1686, lv, [], hp', nc, ns)) : nm_G p l e s m below meth c b D dA (1545, lv, [], hp, nc, ns) := by
  refine lw_aload C0 hK (j := 1) (a := 0) rfl hl.2.1 ?_
  refine lw_inv C0 hK kp_X_seldom_0 rfl (n := 0) (a := 0) (N := mm_X_seldom) rfl rfl rfl rfl rfl (Nat.le_of_ble_eq_true rfl) (Nat.le_of_ble_eq_true rfl) rfl rfl hG ⟨⟨rfl, List.mem_cons_self⟩, trivial⟩ q1 q2 (fun r0 hp1 o0 ho0 hG1 hr0 hf0 hw0 => ?_)
  have hR1 : nm_R hp1 := nm_R_fr hG hG1 hw0 (show nm_Rf kc_X_seldom_0.2.2.2.2.1 kc_X_seldom_0.2.2.2.2.2 = true from by decide +kernel) hR
  obtain ⟨v0, rfl⟩ := nm_rI rfl ho0 hr0
  refine lw_alu C0 hK (len := 1) rfl rfl ?_
  refine lw_aload C0 hK (j := 2) (a := 69) rfl hl.2.2.1 ?_
  refine lw_inv C0 hK kp_M_seldom_0 rfl (n := 0) (a := 69) (N := mm_M_seldom) rfl rfl rfl rfl rfl (Nat.le_of_ble_eq_true rfl) (Nat.le_of_ble_eq_true rfl) rfl rfl hG1 ⟨⟨rfl, List.mem_cons_self⟩, trivial⟩ q1 q2 (fun r1 hp2 o1 ho1 hG2 hr1 hf1 hw1 => ?_)
  have hR2 : nm_R hp2 := nm_R_fr hG1 hG2 hw1 (show nm_Rf kc_M_seldom_0.2.2.2.2.1 kc_M_seldom_0.2.2.2.2.2 = true from by decide +kernel) hR1
  obtain ⟨v1, rfl⟩ := nm_rI rfl ho1 hr1
  refine lw_alu C0 hK (len := 1) rfl rfl ?_
  refine lw_goto C0 hK (off := 131) rfl ?_
  exact h hp2 hG2 hR2
theorem lk_38 (C0 : lw_At p s m meth c b L xs) (hK : va_K D nm_cl (px_tys nm_T dA) s) (hl : nm_lvk lv i) (hi : i + 6 ≤ L) (hL : L ≤ 3072) (hG : ab_h nm_GH hp) (hR : nm_R hp) (q1 : nc ≤ nm_rc) (q2 : ns ≤ nm_rs) (h : ∀ hp' : px_H, ab_h nm_GH hp' → nm_R hp' → nm_G p l e s m below meth c b D dA (1686, lv, [], hp', nc, ns)) : nm_G p l e s m below meth c b D dA (1558, lv, [], hp, nc, ns) := by
  obtain ⟨v0, v1, hp1, hp2, c1, hG1, c2, hG2, hv, hR2⟩ := xp_seed (a0 := xs (i + 1)) hG hR
  refine lw_aload C0 hK (j := 1) (a := 0) rfl hl.2.1 ?_
  refine lw_sc C0 hK (z := 1) 1 rfl rfl rfl rfl rfl rfl hl (by omega) hL ?_
  refine lw_invC C0 hK (mi := mi_X_seed) (n := 1) (a := 0) (N := mm_X_seed) rfl rfl rfl rfl rfl (Nat.le_of_ble_eq_true rfl) (Nat.le_of_ble_eq_true rfl) rfl rfl hG c1 q1 q2 ?_
  refine lw_alu C0 hK (len := 1) rfl rfl ?_
  refine lw_aload C0 hK (j := 2) (a := 69) rfl hl.2.2.1 ?_
  refine lw_sc C0 hK (z := 1) 1 rfl rfl rfl rfl rfl rfl hl (by omega) hL ?_
  refine lw_invC C0 hK (mi := mi_M_seed) (n := 1) (a := 69) (N := mm_M_seed) rfl rfl rfl rfl rfl (Nat.le_of_ble_eq_true rfl) (Nat.le_of_ble_eq_true rfl) rfl rfl hG1 c2 q1 q2 ?_
  refine lw_alu C0 hK (len := 1) rfl rfl ?_
  refine lw_goto C0 hK (off := 106) rfl ?_
  exact h hp2 hG2 hR2
theorem lk_39 (C0 : lw_At p s m meth c b L xs) (hK : va_K D nm_cl (px_tys nm_T dA) s) (hl : nm_lvk lv i) (hi : i + 6 ≤ L) (hL : L ≤ 3072) (hG : ab_h nm_GH hp) (hR : nm_R hp) (q1 : nc ≤ nm_rc) (q2 : ns ≤ nm_rs) (h : ∀ hp' : px_H, ab_h nm_GH hp' → nm_R hp' → nm_G p l e s m below meth c b D dA (1686, lv, [], hp', nc, ns)) : nm_G p l e s m below meth c b D dA (1583, lv, [], hp, nc, ns) := by
  obtain ⟨v0, v1, hp1, hp2, c1, hG1, c2, hG2, hv, hR2⟩ := xp_keep (a0 := xs (i + 1)) hG hR
  refine lw_aload C0 hK (j := 1) (a := 0) rfl hl.2.1 ?_
  refine lw_sc C0 hK (z := 1) 1 rfl rfl rfl rfl rfl rfl hl (by omega) hL ?_
  refine lw_invC C0 hK (mi := mi_X_keep) (n := 1) (a := 0) (N := mm_X_keep) rfl rfl rfl rfl rfl (Nat.le_of_ble_eq_true rfl) (Nat.le_of_ble_eq_true rfl) rfl rfl hG c1 q1 q2 ?_
  refine lw_alu C0 hK (len := 1) rfl rfl ?_
  refine lw_aload C0 hK (j := 2) (a := 69) rfl hl.2.2.1 ?_
  refine lw_sc C0 hK (z := 1) 1 rfl rfl rfl rfl rfl rfl hl (by omega) hL ?_
  refine lw_invC C0 hK (mi := mi_M_keep) (n := 1) (a := 69) (N := mm_M_keep) rfl rfl rfl rfl rfl (Nat.le_of_ble_eq_true rfl) (Nat.le_of_ble_eq_true rfl) rfl rfl hG1 c2 q1 q2 ?_
  refine lw_alu C0 hK (len := 1) rfl rfl ?_
  refine lw_goto C0 hK (off := 81) rfl ?_
  exact h hp2 hG2 hR2
theorem lk_40 (C0 : lw_At p s m meth c b L xs) (hK : va_K D nm_cl (px_tys nm_T dA) s) (hl : nm_lvk lv i) (hi : i + 6 ≤ L) (hL : L ≤ 3072) (hG : ab_h nm_GH hp) (hR : nm_R hp) (q1 : nc ≤ nm_rc) (q2 : ns ≤ nm_rs) (h : ∀ hp' : px_H, ab_h nm_GH hp' → nm_R hp' → nm_G p l e s m below meth c b D dA (1686, lv, [], hp', nc, ns)) : nm_G p l e s m below meth c b D dA (1608, lv, [], hp, nc, ns) := by
  obtain ⟨v0, v1, hp1, hp2, c1, hG1, c2, hG2, hv, hR2⟩ := xp_again (a0 := xs (i + 1)) hG hR
  refine lw_aload C0 hK (j := 1) (a := 0) rfl hl.2.1 ?_
  refine lw_sc C0 hK (z := 1) 1 rfl rfl rfl rfl rfl rfl hl (by omega) hL ?_
  refine lw_invC C0 hK (mi := mi_X_again) (n := 1) (a := 0) (N := mm_X_again) rfl rfl rfl rfl rfl (Nat.le_of_ble_eq_true rfl) (Nat.le_of_ble_eq_true rfl) rfl rfl hG c1 q1 q2 ?_
  refine lw_alu C0 hK (len := 1) rfl rfl ?_
  refine lw_aload C0 hK (j := 2) (a := 69) rfl hl.2.2.1 ?_
  refine lw_sc C0 hK (z := 1) 1 rfl rfl rfl rfl rfl rfl hl (by omega) hL ?_
  refine lw_invC C0 hK (mi := mi_M_again) (n := 1) (a := 69) (N := mm_M_again) rfl rfl rfl rfl rfl (Nat.le_of_ble_eq_true rfl) (Nat.le_of_ble_eq_true rfl) rfl rfl hG1 c2 q1 q2 ?_
  refine lw_alu C0 hK (len := 1) rfl rfl ?_
  refine lw_goto C0 hK (off := 56) rfl ?_
  exact h hp2 hG2 hR2
theorem lk_41 (C0 : lw_At p s m meth c b L xs) (hK : va_K D nm_cl (px_tys nm_T dA) s) (hl : nm_lvk lv i) (hi : i + 6 ≤ L) (hL : L ≤ 3072) (hG : ab_h nm_GH hp) (hR : nm_R hp) (q1 : nc ≤ nm_rc) (q2 : ns ≤ nm_rs) (h : ∀ hp' : px_H, ab_h nm_GH hp' → nm_R hp' → nm_G p l e s m below meth c b D dA (1686, lv, [], hp', nc, ns)) : nm_G p l e s m below meth c b D dA (1633, lv, [], hp, nc, ns) := by
  refine lw_aload C0 hK (j := 1) (a := 0) rfl hl.2.1 ?_
  refine lw_sc C0 hK (z := 1) 1 rfl rfl rfl rfl rfl rfl hl (by omega) hL ?_
  refine lw_inv C0 hK kp_X_count_0 rfl (n := 1) (a := 0) (N := mm_X_count) rfl rfl rfl rfl rfl (Nat.le_of_ble_eq_true rfl) (Nat.le_of_ble_eq_true rfl) rfl rfl hG ⟨⟨rfl, List.mem_cons_self⟩, ⟨rfl, ab_i32 _⟩, trivial⟩ q1 q2 (fun r0 hp1 o0 ho0 hG1 hr0 hf0 hw0 => ?_)
  have hR1 : nm_R hp1 := nm_R_fr hG hG1 hw0 (show nm_Rf kc_X_count_0.2.2.2.2.1 kc_X_count_0.2.2.2.2.2 = true from by decide +kernel) hR
  obtain ⟨v0, rfl⟩ := nm_rI rfl ho0 hr0
  refine lw_alu C0 hK (len := 1) rfl rfl ?_
  refine lw_aload C0 hK (j := 2) (a := 69) rfl hl.2.2.1 ?_
  refine lw_sc C0 hK (z := 1) 1 rfl rfl rfl rfl rfl rfl hl (by omega) hL ?_
  refine lw_inv C0 hK kp_M_count_0 rfl (n := 1) (a := 69) (N := mm_M_count) rfl rfl rfl rfl rfl (Nat.le_of_ble_eq_true rfl) (Nat.le_of_ble_eq_true rfl) rfl rfl hG1 ⟨⟨rfl, List.mem_cons_self⟩, ⟨rfl, ab_i32 _⟩, trivial⟩ q1 q2 (fun r1 hp2 o1 ho1 hG2 hr1 hf1 hw1 => ?_)
  have hR2 : nm_R hp2 := nm_R_fr hG1 hG2 hw1 (show nm_Rf kc_M_count_0.2.2.2.2.1 kc_M_count_0.2.2.2.2.2 = true from by decide +kernel) hR1
  obtain ⟨v1, rfl⟩ := nm_rI rfl ho1 hr1
  refine lw_alu C0 hK (len := 1) rfl rfl ?_
  refine lw_goto C0 hK (off := 31) rfl ?_
  exact h hp2 hG2 hR2
end nm_lk
