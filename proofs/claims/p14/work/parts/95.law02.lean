/-! the law's cases, from 22 -/
section nm_lk
variable {p : Program} {l : Launch} {e : Env} {s : State} {m : MethodId} {below : List Frame} {meth : Method} {c : Code} {b L : Nat} {xs : Nat → Int32} {D : va_G} {dA : Nat → ClassId}
variable {i nc ns : Nat} {lv : List (Nat × Value)} {hp : px_H}
set_option maxRecDepth 100000
theorem lk_22 (C0 : lw_At p s m meth c b L xs) (hK : va_K D nm_cl (px_tys nm_T dA) s) (hl : nm_lvk lv i) (hi : i + 6 ≤ L) (hL : L ≤ 3072) (hG : ab_h nm_GH hp) (hR : nm_R hp) (q1 : nc ≤ nm_rc) (q2 : ns ≤ nm_rs) (h : ∀ hp' : px_H, ab_h nm_GH hp' → nm_R hp' → nm_G p l e s m below meth c b D dA (1686, lv, [], hp', nc, ns)) : nm_G p l e s m below meth c b D dA (1002, lv, [], hp, nc, ns) := by
  refine lw_aload C0 hK (j := 1) (a := 0) rfl hl.2.1 ?_
  refine lw_sc C0 hK (z := 1) 1 rfl rfl rfl rfl rfl rfl hl (by omega) hL ?_
  refine lw_inv C0 hK kp_X_empty_0 rfl (n := 1) (a := 0) (N := mm_X_empty) rfl rfl rfl rfl rfl (Nat.le_of_ble_eq_true rfl) (Nat.le_of_ble_eq_true rfl) rfl rfl hG ⟨⟨rfl, List.mem_cons_self⟩, ⟨rfl, ab_i32 _⟩, trivial⟩ q1 q2 (fun r0 hp1 o0 ho0 hG1 hr0 hf0 hw0 => ?_)
  have hR1 : nm_R hp1 := nm_R_fr hG hG1 hw0 (show nm_Rf kc_X_empty_0.2.2.2.2.1 kc_X_empty_0.2.2.2.2.2 = true from by decide +kernel) hR
  obtain ⟨v0, rfl⟩ := nm_rI rfl ho0 hr0
  refine lw_alu C0 hK (len := 1) rfl rfl ?_
  refine lw_aload C0 hK (j := 2) (a := 69) rfl hl.2.2.1 ?_
  refine lw_sc C0 hK (z := 1) 1 rfl rfl rfl rfl rfl rfl hl (by omega) hL ?_
  refine lw_inv C0 hK kp_M_empty_0 rfl (n := 1) (a := 69) (N := mm_M_empty) rfl rfl rfl rfl rfl (Nat.le_of_ble_eq_true rfl) (Nat.le_of_ble_eq_true rfl) rfl rfl hG1 ⟨⟨rfl, List.mem_cons_self⟩, ⟨rfl, ab_i32 _⟩, trivial⟩ q1 q2 (fun r1 hp2 o1 ho1 hG2 hr1 hf1 hw1 => ?_)
  have hR2 : nm_R hp2 := nm_R_fr hG1 hG2 hw1 (show nm_Rf kc_M_empty_0.2.2.2.2.1 kc_M_empty_0.2.2.2.2.2 = true from by decide +kernel) hR1
  obtain ⟨v1, rfl⟩ := nm_rI rfl ho1 hr1
  refine lw_alu C0 hK (len := 1) rfl rfl ?_
  refine lw_goto C0 hK (off := 662) rfl ?_
  exact h hp2 hG2 hR2
theorem lk_23 (C0 : lw_At p s m meth c b L xs) (hK : va_K D nm_cl (px_tys nm_T dA) s) (hl : nm_lvk lv i) (hi : i + 6 ≤ L) (hL : L ≤ 3072) (hG : ab_h nm_GH hp) (hR : nm_R hp) (q1 : nc ≤ nm_rc) (q2 : ns ≤ nm_rs) (h : ∀ hp' : px_H, ab_h nm_GH hp' → nm_R hp' → nm_G p l e s m below meth c b D dA (1686, lv, [], hp', nc, ns)) : nm_G p l e s m below meth c b D dA (1027, lv, [], hp, nc, ns) := by
  refine lw_aload C0 hK (j := 1) (a := 0) rfl hl.2.1 ?_
  refine lw_sc C0 hK (z := 1) 1 rfl rfl rfl rfl rfl rfl hl (by omega) hL ?_
  refine lw_inv C0 hK kp_X_vain_0 rfl (n := 1) (a := 0) (N := mm_X_vain) rfl rfl rfl rfl rfl (Nat.le_of_ble_eq_true rfl) (Nat.le_of_ble_eq_true rfl) rfl rfl hG ⟨⟨rfl, List.mem_cons_self⟩, ⟨rfl, ab_i32 _⟩, trivial⟩ q1 q2 (fun r0 hp1 o0 ho0 hG1 hr0 hf0 hw0 => ?_)
  have hR1 : nm_R hp1 := nm_R_fr hG hG1 hw0 (show nm_Rf kc_X_vain_0.2.2.2.2.1 kc_X_vain_0.2.2.2.2.2 = true from by decide +kernel) hR
  obtain ⟨v0, rfl⟩ := nm_rI rfl ho0 hr0
  refine lw_alu C0 hK (len := 1) rfl rfl ?_
  refine lw_aload C0 hK (j := 2) (a := 69) rfl hl.2.2.1 ?_
  refine lw_sc C0 hK (z := 1) 1 rfl rfl rfl rfl rfl rfl hl (by omega) hL ?_
  refine lw_inv C0 hK kp_M_vain_0 rfl (n := 1) (a := 69) (N := mm_M_vain) rfl rfl rfl rfl rfl (Nat.le_of_ble_eq_true rfl) (Nat.le_of_ble_eq_true rfl) rfl rfl hG1 ⟨⟨rfl, List.mem_cons_self⟩, ⟨rfl, ab_i32 _⟩, trivial⟩ q1 q2 (fun r1 hp2 o1 ho1 hG2 hr1 hf1 hw1 => ?_)
  have hR2 : nm_R hp2 := nm_R_fr hG1 hG2 hw1 (show nm_Rf kc_M_vain_0.2.2.2.2.1 kc_M_vain_0.2.2.2.2.2 = true from by decide +kernel) hR1
  obtain ⟨v1, rfl⟩ := nm_rI rfl ho1 hr1
  refine lw_alu C0 hK (len := 1) rfl rfl ?_
  refine lw_goto C0 hK (off := 637) rfl ?_
  exact h hp2 hG2 hR2
theorem lk_24 (C0 : lw_At p s m meth c b L xs) (hK : va_K D nm_cl (px_tys nm_T dA) s) (hl : nm_lvk lv i) (hi : i + 6 ≤ L) (hL : L ≤ 3072) (hG : ab_h nm_GH hp) (hR : nm_R hp) (q1 : nc ≤ nm_rc) (q2 : ns ≤ nm_rs) (h : ∀ hp' : px_H, ab_h nm_GH hp' → nm_R hp' → nm_G p l e s m below meth c b D dA (1686, lv, [], hp', nc, ns)) : nm_G p l e s m below meth c b D dA (1052, lv, [], hp, nc, ns) := by
  refine lw_aload C0 hK (j := 1) (a := 0) rfl hl.2.1 ?_
  refine lw_sc C0 hK (z := 1) 1 rfl rfl rfl rfl rfl rfl hl (by omega) hL ?_
  refine lw_sc C0 hK (z := 2) 2 rfl rfl rfl rfl rfl rfl hl (by omega) hL ?_
  refine lw_inv C0 hK kp_X_house_0 rfl (n := 2) (a := 0) (N := mm_X_house) rfl rfl rfl rfl rfl (Nat.le_of_ble_eq_true rfl) (Nat.le_of_ble_eq_true rfl) rfl rfl hG ⟨⟨rfl, List.mem_cons_self⟩, ⟨rfl, ab_i32 _⟩, ⟨rfl, ab_i32 _⟩, trivial⟩ q1 q2 (fun r0 hp1 o0 ho0 hG1 hr0 hf0 hw0 => ?_)
  have hR1 : nm_R hp1 := nm_R_fr hG hG1 hw0 (show nm_Rf kc_X_house_0.2.2.2.2.1 kc_X_house_0.2.2.2.2.2 = true from by decide +kernel) hR
  obtain ⟨v0, rfl⟩ := nm_rI rfl ho0 hr0
  refine lw_alu C0 hK (len := 1) rfl rfl ?_
  refine lw_aload C0 hK (j := 2) (a := 69) rfl hl.2.2.1 ?_
  refine lw_sc C0 hK (z := 1) 1 rfl rfl rfl rfl rfl rfl hl (by omega) hL ?_
  refine lw_sc C0 hK (z := 2) 2 rfl rfl rfl rfl rfl rfl hl (by omega) hL ?_
  refine lw_inv C0 hK kp_M_house_0 rfl (n := 2) (a := 69) (N := mm_M_house) rfl rfl rfl rfl rfl (Nat.le_of_ble_eq_true rfl) (Nat.le_of_ble_eq_true rfl) rfl rfl hG1 ⟨⟨rfl, List.mem_cons_self⟩, ⟨rfl, ab_i32 _⟩, ⟨rfl, ab_i32 _⟩, trivial⟩ q1 q2 (fun r1 hp2 o1 ho1 hG2 hr1 hf1 hw1 => ?_)
  have hR2 : nm_R hp2 := nm_R_fr hG1 hG2 hw1 (show nm_Rf kc_M_house_0.2.2.2.2.1 kc_M_house_0.2.2.2.2.2 = true from by decide +kernel) hR1
  obtain ⟨v1, rfl⟩ := nm_rI rfl ho1 hr1
  refine lw_alu C0 hK (len := 1) rfl rfl ?_
  refine lw_goto C0 hK (off := 600) rfl ?_
  exact h hp2 hG2 hR2
theorem lk_25 (C0 : lw_At p s m meth c b L xs) (hK : va_K D nm_cl (px_tys nm_T dA) s) (hl : nm_lvk lv i) (hi : i + 6 ≤ L) (hL : L ≤ 3072) (hG : ab_h nm_GH hp) (hR : nm_R hp) (q1 : nc ≤ nm_rc) (q2 : ns ≤ nm_rs) (h : ∀ hp' : px_H, ab_h nm_GH hp' → nm_R hp' → nm_G p l e s m below meth c b D dA (1686, lv, [], hp', nc, ns)) : nm_G p l e s m below meth c b D dA (1089, lv, [], hp, nc, ns) := by
  refine lw_aload C0 hK (j := 1) (a := 0) rfl hl.2.1 ?_
  refine lw_sc C0 hK (z := 1) 1 rfl rfl rfl rfl rfl rfl hl (by omega) hL ?_
  refine lw_inv C0 hK kp_X_ways_0 rfl (n := 1) (a := 0) (N := mm_X_ways) rfl rfl rfl rfl rfl (Nat.le_of_ble_eq_true rfl) (Nat.le_of_ble_eq_true rfl) rfl rfl hG ⟨⟨rfl, List.mem_cons_self⟩, ⟨rfl, ab_i32 _⟩, trivial⟩ q1 q2 (fun r0 hp1 o0 ho0 hG1 hr0 hf0 hw0 => ?_)
  have hR1 : nm_R hp1 := nm_R_fr hG hG1 hw0 (show nm_Rf kc_X_ways_0.2.2.2.2.1 kc_X_ways_0.2.2.2.2.2 = true from by decide +kernel) hR
  obtain ⟨v0, rfl⟩ := nm_rI rfl ho0 hr0
  refine lw_alu C0 hK (len := 1) rfl rfl ?_
  refine lw_aload C0 hK (j := 2) (a := 69) rfl hl.2.2.1 ?_
  refine lw_sc C0 hK (z := 1) 1 rfl rfl rfl rfl rfl rfl hl (by omega) hL ?_
  refine lw_inv C0 hK kp_M_ways_0 rfl (n := 1) (a := 69) (N := mm_M_ways) rfl rfl rfl rfl rfl (Nat.le_of_ble_eq_true rfl) (Nat.le_of_ble_eq_true rfl) rfl rfl hG1 ⟨⟨rfl, List.mem_cons_self⟩, ⟨rfl, ab_i32 _⟩, trivial⟩ q1 q2 (fun r1 hp2 o1 ho1 hG2 hr1 hf1 hw1 => ?_)
  have hR2 : nm_R hp2 := nm_R_fr hG1 hG2 hw1 (show nm_Rf kc_M_ways_0.2.2.2.2.1 kc_M_ways_0.2.2.2.2.2 = true from by decide +kernel) hR1
  obtain ⟨v1, rfl⟩ := nm_rI rfl ho1 hr1
  refine lw_alu C0 hK (len := 1) rfl rfl ?_
  refine lw_goto C0 hK (off := 575) rfl ?_
  exact h hp2 hG2 hR2
theorem lk_26 (C0 : lw_At p s m meth c b L xs) (hK : va_K D nm_cl (px_tys nm_T dA) s) (hl : nm_lvk lv i) (hi : i + 6 ≤ L) (hL : L ≤ 3072) (hG : ab_h nm_GH hp) (hR : nm_R hp) (q1 : nc ≤ nm_rc) (q2 : ns ≤ nm_rs) (h : ∀ hp' : px_H, ab_h nm_GH hp' → nm_R hp' → nm_G p l e s m below meth c b D dA (1686, lv, [], hp', nc, ns)) : nm_G p l e s m below meth c b D dA (1114, lv, [], hp, nc, ns) := by
  refine lw_aload C0 hK (j := 1) (a := 0) rfl hl.2.1 ?_
  refine lw_sc C0 hK (z := 1) 1 rfl rfl rfl rfl rfl rfl hl (by omega) hL ?_
  refine lw_sc C0 hK (z := 2) 2 rfl rfl rfl rfl rfl rfl hl (by omega) hL ?_
  refine lw_inv C0 hK kp_X_sure_0 rfl (n := 2) (a := 0) (N := mm_X_sure) rfl rfl rfl rfl rfl (Nat.le_of_ble_eq_true rfl) (Nat.le_of_ble_eq_true rfl) rfl rfl hG ⟨⟨rfl, List.mem_cons_self⟩, ⟨rfl, ab_i32 _⟩, ⟨rfl, ab_i32 _⟩, trivial⟩ q1 q2 (fun r0 hp1 o0 ho0 hG1 hr0 hf0 hw0 => ?_)
  have hR1 : nm_R hp1 := nm_R_fr hG hG1 hw0 (show nm_Rf kc_X_sure_0.2.2.2.2.1 kc_X_sure_0.2.2.2.2.2 = true from by decide +kernel) hR
  obtain ⟨v0, rfl⟩ := nm_rI rfl ho0 hr0
  refine lw_alu C0 hK (len := 1) rfl rfl ?_
  refine lw_aload C0 hK (j := 2) (a := 69) rfl hl.2.2.1 ?_
  refine lw_sc C0 hK (z := 1) 1 rfl rfl rfl rfl rfl rfl hl (by omega) hL ?_
  refine lw_sc C0 hK (z := 2) 2 rfl rfl rfl rfl rfl rfl hl (by omega) hL ?_
  refine lw_inv C0 hK kp_M_sure_0 rfl (n := 2) (a := 69) (N := mm_M_sure) rfl rfl rfl rfl rfl (Nat.le_of_ble_eq_true rfl) (Nat.le_of_ble_eq_true rfl) rfl rfl hG1 ⟨⟨rfl, List.mem_cons_self⟩, ⟨rfl, ab_i32 _⟩, ⟨rfl, ab_i32 _⟩, trivial⟩ q1 q2 (fun r1 hp2 o1 ho1 hG2 hr1 hf1 hw1 => ?_)
  have hR2 : nm_R hp2 := nm_R_fr hG1 hG2 hw1 (show nm_Rf kc_M_sure_0.2.2.2.2.1 kc_M_sure_0.2.2.2.2.2 = true from by decide +kernel) hR1
  obtain ⟨v1, rfl⟩ := nm_rI rfl ho1 hr1
  refine lw_alu C0 hK (len := 1) rfl rfl ?_
  refine lw_goto C0 hK (off := 538) rfl ?_
  exact h hp2 hG2 hR2
theorem lk_27 (C0 : lw_At p s m meth c b L xs) (hK : va_K D nm_cl (px_tys nm_T dA) s) (hl : nm_lvk lv i) (hi : i + 6 ≤ L) (hL : L ≤ 3072) (hG : ab_h nm_GH hp) (hR : nm_R hp) (q1 : nc ≤ nm_rc) (q2 : ns ≤ nm_rs) (h : ∀ hp' : px_H, ab_h nm_GH hp' → nm_R hp' → nm_G p l e s m below meth c b D dA (1686, lv, [], hp', nc, ns)) : nm_G p l e s m below meth c b D dA (1151, lv, [], hp, nc, ns) := by
  refine lw_aload C0 hK (j := 1) (a := 0) rfl hl.2.1 ?_
  refine lw_sc C0 hK (z := 1) 1 rfl rfl rfl rfl rfl rfl hl (by omega) hL ?_
  refine lw_sc C0 hK (z := 2) 2 rfl rfl rfl rfl rfl rfl hl (by omega) hL ?_
  refine lw_inv C0 hK kp_X_sit_0 rfl (n := 2) (a := 0) (N := mm_X_sit) rfl rfl rfl rfl rfl (Nat.le_of_ble_eq_true rfl) (Nat.le_of_ble_eq_true rfl) rfl rfl hG ⟨⟨rfl, List.mem_cons_self⟩, ⟨rfl, ab_i32 _⟩, ⟨rfl, ab_i32 _⟩, trivial⟩ q1 q2 (fun r0 hp1 o0 ho0 hG1 hr0 hf0 hw0 => ?_)
  have hR1 : nm_R hp1 := nm_R_fr hG hG1 hw0 (show nm_Rf kc_X_sit_0.2.2.2.2.1 kc_X_sit_0.2.2.2.2.2 = true from by decide +kernel) hR
  obtain ⟨v0, rfl⟩ := nm_rI rfl ho0 hr0
  refine lw_alu C0 hK (len := 1) rfl rfl ?_
  refine lw_aload C0 hK (j := 2) (a := 69) rfl hl.2.2.1 ?_
  refine lw_sc C0 hK (z := 1) 1 rfl rfl rfl rfl rfl rfl hl (by omega) hL ?_
  refine lw_sc C0 hK (z := 2) 2 rfl rfl rfl rfl rfl rfl hl (by omega) hL ?_
  refine lw_inv C0 hK kp_M_sit_0 rfl (n := 2) (a := 69) (N := mm_M_sit) rfl rfl rfl rfl rfl (Nat.le_of_ble_eq_true rfl) (Nat.le_of_ble_eq_true rfl) rfl rfl hG1 ⟨⟨rfl, List.mem_cons_self⟩, ⟨rfl, ab_i32 _⟩, ⟨rfl, ab_i32 _⟩, trivial⟩ q1 q2 (fun r1 hp2 o1 ho1 hG2 hr1 hf1 hw1 => ?_)
  have hR2 : nm_R hp2 := nm_R_fr hG1 hG2 hw1 (show nm_Rf kc_M_sit_0.2.2.2.2.1 kc_M_sit_0.2.2.2.2.2 = true from by decide +kernel) hR1
  obtain ⟨v1, rfl⟩ := nm_rI rfl ho1 hr1
  refine lw_alu C0 hK (len := 1) rfl rfl ?_
  refine lw_goto C0 hK (off := 501) rfl ?_
  exact h hp2 hG2 hR2
theorem lk_28 (C0 : lw_At p s m meth c b L xs) (hK : va_K D nm_cl (px_tys nm_T dA) s) (hl : nm_lvk lv i) (hi : i + 6 ≤ L) (hL : L ≤ 3072) (hG : ab_h nm_GH hp) (hR : nm_R hp) (q1 : nc ≤ nm_rc) (q2 : ns ≤ nm_rs) (h : ∀ hp' : px_H, ab_h nm_GH hp' → nm_R hp' → nm_G p l e s m below meth c b D dA (1686, lv, [], hp', nc, ns)) : nm_G p l e s m below meth c b D dA (1188, lv, [], hp, nc, ns) := by
  refine lw_aload C0 hK (j := 1) (a := 0) rfl hl.2.1 ?_
  refine lw_inv C0 hK kp_X_known_0 rfl (n := 0) (a := 0) (N := mm_X_known) rfl rfl rfl rfl rfl (Nat.le_of_ble_eq_true rfl) (Nat.le_of_ble_eq_true rfl) rfl rfl hG ⟨⟨rfl, List.mem_cons_self⟩, trivial⟩ q1 q2 (fun r0 hp1 o0 ho0 hG1 hr0 hf0 hw0 => ?_)
  have hR1 : nm_R hp1 := nm_R_fr hG hG1 hw0 (show nm_Rf kc_X_known_0.2.2.2.2.1 kc_X_known_0.2.2.2.2.2 = true from by decide +kernel) hR
  obtain ⟨v0, rfl⟩ := nm_rI rfl ho0 hr0
  refine lw_alu C0 hK (len := 1) rfl rfl ?_
  refine lw_aload C0 hK (j := 2) (a := 69) rfl hl.2.2.1 ?_
  refine lw_inv C0 hK kp_M_known_0 rfl (n := 0) (a := 69) (N := mm_M_known) rfl rfl rfl rfl rfl (Nat.le_of_ble_eq_true rfl) (Nat.le_of_ble_eq_true rfl) rfl rfl hG1 ⟨⟨rfl, List.mem_cons_self⟩, trivial⟩ q1 q2 (fun r1 hp2 o1 ho1 hG2 hr1 hf1 hw1 => ?_)
  have hR2 : nm_R hp2 := nm_R_fr hG1 hG2 hw1 (show nm_Rf kc_M_known_0.2.2.2.2.1 kc_M_known_0.2.2.2.2.2 = true from by decide +kernel) hR1
  obtain ⟨v1, rfl⟩ := nm_rI rfl ho1 hr1
  refine lw_alu C0 hK (len := 1) rfl rfl ?_
  refine lw_goto C0 hK (off := 488) rfl ?_
  exact h hp2 hG2 hR2
theorem lk_29 (C0 : lw_At p s m meth c b L xs) (hK : va_K D nm_cl (px_tys nm_T dA) s) (hl : nm_lvk lv i) (hi : i + 6 ≤ L) (hL : L ≤ 3072) (hG : ab_h nm_GH hp) (hR : nm_R hp) (q1 : nc ≤ nm_rc) (q2 : ns ≤ nm_rs) (h : ∀ hp' : px_H, ab_h nm_GH hp' → nm_R hp' → nm_G p l e s m below meth c b D dA (1686, lv, [], hp', nc, ns)) : nm_G p l e s m below meth c b D dA (1201, lv, [], hp, nc, ns) := by
  refine lw_aload C0 hK (j := 1) (a := 0) rfl hl.2.1 ?_
  refine lw_sc C0 hK (z := 1) 1 rfl rfl rfl rfl rfl rfl hl (by omega) hL ?_
  refine lw_sc C0 hK (z := 2) 2 rfl rfl rfl rfl rfl rfl hl (by omega) hL ?_
  refine lw_sc C0 hK (z := 3) 3 rfl rfl rfl rfl rfl rfl hl (by omega) hL ?_
  refine lw_sc C0 hK (z := 4) 4 rfl rfl rfl rfl rfl rfl hl (by omega) hL ?_
  refine lw_sc C0 hK (z := 5) 5 rfl rfl rfl rfl rfl rfl hl (by omega) hL ?_
  refine lw_inv C0 hK kp_X_best_0 rfl (n := 5) (a := 0) (N := mm_X_best) rfl rfl rfl rfl rfl (Nat.le_of_ble_eq_true rfl) (Nat.le_of_ble_eq_true rfl) rfl rfl hG ⟨⟨rfl, List.mem_cons_self⟩, ⟨rfl, ab_i32 _⟩, ⟨rfl, ab_i32 _⟩, ⟨rfl, ab_i32 _⟩, ⟨rfl, ab_i32 _⟩, ⟨rfl, ab_i32 _⟩, trivial⟩ q1 q2 (fun r0 hp1 o0 ho0 hG1 hr0 hf0 hw0 => ?_)
  have hR1 : nm_R hp1 := nm_R_fr hG hG1 hw0 (show nm_Rf kc_X_best_0.2.2.2.2.1 kc_X_best_0.2.2.2.2.2 = true from by decide +kernel) hR
  obtain ⟨v0, rfl⟩ := nm_rI rfl ho0 hr0
  refine lw_alu C0 hK (len := 1) rfl rfl ?_
  refine lw_aload C0 hK (j := 2) (a := 69) rfl hl.2.2.1 ?_
  refine lw_sc C0 hK (z := 1) 1 rfl rfl rfl rfl rfl rfl hl (by omega) hL ?_
  refine lw_sc C0 hK (z := 2) 2 rfl rfl rfl rfl rfl rfl hl (by omega) hL ?_
  refine lw_sc C0 hK (z := 3) 3 rfl rfl rfl rfl rfl rfl hl (by omega) hL ?_
  refine lw_sc C0 hK (z := 4) 4 rfl rfl rfl rfl rfl rfl hl (by omega) hL ?_
  refine lw_sc C0 hK (z := 5) 5 rfl rfl rfl rfl rfl rfl hl (by omega) hL ?_
  refine lw_inv C0 hK kp_M_best_0 rfl (n := 5) (a := 69) (N := mm_M_best) rfl rfl rfl rfl rfl (Nat.le_of_ble_eq_true rfl) (Nat.le_of_ble_eq_true rfl) rfl rfl hG1 ⟨⟨rfl, List.mem_cons_self⟩, ⟨rfl, ab_i32 _⟩, ⟨rfl, ab_i32 _⟩, ⟨rfl, ab_i32 _⟩, ⟨rfl, ab_i32 _⟩, ⟨rfl, ab_i32 _⟩, trivial⟩ q1 q2 (fun r1 hp2 o1 ho1 hG2 hr1 hf1 hw1 => ?_)
  have hR2 : nm_R hp2 := nm_R_fr hG1 hG2 hw1 (show nm_Rf kc_M_best_0.2.2.2.2.1 kc_M_best_0.2.2.2.2.2 = true from by decide +kernel) hR1
  obtain ⟨v1, rfl⟩ := nm_rI rfl ho1 hr1
  refine lw_alu C0 hK (len := 1) rfl rfl ?_
  refine lw_goto C0 hK (off := 415) rfl ?_
  exact h hp2 hG2 hR2
theorem lk_30 (C0 : lw_At p s m meth c b L xs) (hK : va_K D nm_cl (px_tys nm_T dA) s) (hl : nm_lvk lv i) (hi : i + 6 ≤ L) (hL : L ≤ 3072) (hG : ab_h nm_GH hp) (hR : nm_R hp) (q1 : nc ≤ nm_rc) (q2 : ns ≤ nm_rs) (h : ∀ hp' : px_H, ab_h nm_GH hp' → nm_R hp' → nm_G p l e s m below meth c b D dA (1686, lv, [], hp', nc, ns)) : nm_G p l e s m below meth c b D dA (1274, lv, [], hp, nc, ns) := by
  refine lw_aload C0 hK (j := 1) (a := 0) rfl hl.2.1 ?_
  refine lw_sc C0 hK (z := 1) 1 rfl rfl rfl rfl rfl rfl hl (by omega) hL ?_
  refine lw_sc C0 hK (z := 2) 2 rfl rfl rfl rfl rfl rfl hl (by omega) hL ?_
  refine lw_sc C0 hK (z := 3) 3 rfl rfl rfl rfl rfl rfl hl (by omega) hL ?_
  refine lw_sc C0 hK (z := 4) 4 rfl rfl rfl rfl rfl rfl hl (by omega) hL ?_
  refine lw_inv C0 hK kp_X_never_0 rfl (n := 4) (a := 0) (N := mm_X_never) rfl rfl rfl rfl rfl (Nat.le_of_ble_eq_true rfl) (Nat.le_of_ble_eq_true rfl) rfl rfl hG ⟨⟨rfl, List.mem_cons_self⟩, ⟨rfl, ab_i32 _⟩, ⟨rfl, ab_i32 _⟩, ⟨rfl, ab_i32 _⟩, ⟨rfl, ab_i32 _⟩, trivial⟩ q1 q2 (fun r0 hp1 o0 ho0 hG1 hr0 hf0 hw0 => ?_)
  have hR1 : nm_R hp1 := nm_R_fr hG hG1 hw0 (show nm_Rf kc_X_never_0.2.2.2.2.1 kc_X_never_0.2.2.2.2.2 = true from by decide +kernel) hR
  obtain ⟨v0, rfl⟩ := nm_rI rfl ho0 hr0
  refine lw_alu C0 hK (len := 1) rfl rfl ?_
  refine lw_aload C0 hK (j := 2) (a := 69) rfl hl.2.2.1 ?_
  refine lw_sc C0 hK (z := 1) 1 rfl rfl rfl rfl rfl rfl hl (by omega) hL ?_
  refine lw_sc C0 hK (z := 2) 2 rfl rfl rfl rfl rfl rfl hl (by omega) hL ?_
  refine lw_sc C0 hK (z := 3) 3 rfl rfl rfl rfl rfl rfl hl (by omega) hL ?_
  refine lw_sc C0 hK (z := 4) 4 rfl rfl rfl rfl rfl rfl hl (by omega) hL ?_
  refine lw_inv C0 hK kp_M_never_0 rfl (n := 4) (a := 69) (N := mm_M_never) rfl rfl rfl rfl rfl (Nat.le_of_ble_eq_true rfl) (Nat.le_of_ble_eq_true rfl) rfl rfl hG1 ⟨⟨rfl, List.mem_cons_self⟩, ⟨rfl, ab_i32 _⟩, ⟨rfl, ab_i32 _⟩, ⟨rfl, ab_i32 _⟩, ⟨rfl, ab_i32 _⟩, trivial⟩ q1 q2 (fun r1 hp2 o1 ho1 hG2 hr1 hf1 hw1 => ?_)
  have hR2 : nm_R hp2 := nm_R_fr hG1 hG2 hw1 (show nm_Rf kc_M_never_0.2.2.2.2.1 kc_M_never_0.2.2.2.2.2 = true from by decide +kernel) hR1
  obtain ⟨v1, rfl⟩ := nm_rI rfl ho1 hr1
  refine lw_alu C0 hK (len := 1) rfl rfl ?_
  refine lw_goto C0 hK (off := 354) rfl ?_
  exact h hp2 hG2 hR2
theorem lk_31 (C0 : lw_At p s m meth c b L xs) (hK : va_K D nm_cl (px_tys nm_T dA) s) (hl : nm_lvk lv i) (hi : i + 6 ≤ L) (hL : L ≤ 3072) (hG : ab_h nm_GH hp) (hR : nm_R hp) (q1 : nc ≤ nm_rc) (q2 : ns ≤ nm_rs) (h : ∀ hp' : px_H, ab_h nm_GH hp' → nm_R hp' → nm_G p l e s m below meth c b D dA (1686, lv, [], hp', nc, ns)) : nm_G p l e s m below meth c b D dA (1335, lv, [], hp, nc, ns) := by
  refine lw_aload C0 hK (j := 1) (a := 0) rfl hl.2.1 ?_
  refine lw_sc C0 hK (z := 1) 1 rfl rfl rfl rfl rfl rfl hl (by omega) hL ?_
  refine lw_sc C0 hK (z := 2) 2 rfl rfl rfl rfl rfl rfl hl (by omega) hL ?_
  refine lw_sc C0 hK (z := 3) 3 rfl rfl rfl rfl rfl rfl hl (by omega) hL ?_
  refine lw_sc C0 hK (z := 4) 4 rfl rfl rfl rfl rfl rfl hl (by omega) hL ?_
  refine lw_inv C0 hK kp_X_even_0 rfl (n := 4) (a := 0) (N := mm_X_even) rfl rfl rfl rfl rfl (Nat.le_of_ble_eq_true rfl) (Nat.le_of_ble_eq_true rfl) rfl rfl hG ⟨⟨rfl, List.mem_cons_self⟩, ⟨rfl, ab_i32 _⟩, ⟨rfl, ab_i32 _⟩, ⟨rfl, ab_i32 _⟩, ⟨rfl, ab_i32 _⟩, trivial⟩ q1 q2 (fun r0 hp1 o0 ho0 hG1 hr0 hf0 hw0 => ?_)
  have hR1 : nm_R hp1 := nm_R_fr hG hG1 hw0 (show nm_Rf kc_X_even_0.2.2.2.2.1 kc_X_even_0.2.2.2.2.2 = true from by decide +kernel) hR
  obtain ⟨v0, rfl⟩ := nm_rI rfl ho0 hr0
  refine lw_alu C0 hK (len := 1) rfl rfl ?_
  refine lw_aload C0 hK (j := 2) (a := 69) rfl hl.2.2.1 ?_
  refine lw_sc C0 hK (z := 1) 1 rfl rfl rfl rfl rfl rfl hl (by omega) hL ?_
  refine lw_sc C0 hK (z := 2) 2 rfl rfl rfl rfl rfl rfl hl (by omega) hL ?_
  refine lw_sc C0 hK (z := 3) 3 rfl rfl rfl rfl rfl rfl hl (by omega) hL ?_
  refine lw_sc C0 hK (z := 4) 4 rfl rfl rfl rfl rfl rfl hl (by omega) hL ?_
  refine lw_inv C0 hK kp_M_even_0 rfl (n := 4) (a := 69) (N := mm_M_even) rfl rfl rfl rfl rfl (Nat.le_of_ble_eq_true rfl) (Nat.le_of_ble_eq_true rfl) rfl rfl hG1 ⟨⟨rfl, List.mem_cons_self⟩, ⟨rfl, ab_i32 _⟩, ⟨rfl, ab_i32 _⟩, ⟨rfl, ab_i32 _⟩, ⟨rfl, ab_i32 _⟩, trivial⟩ q1 q2 (fun r1 hp2 o1 ho1 hG2 hr1 hf1 hw1 => ?_)
  have hR2 : nm_R hp2 := nm_R_fr hG1 hG2 hw1 (show nm_Rf kc_M_even_0.2.2.2.2.1 kc_M_even_0.2.2.2.2.2 = true from by decide +kernel) hR1
  obtain ⟨v1, rfl⟩ := nm_rI rfl ho1 hr1
  refine lw_alu C0 hK (len := 1) rfl rfl ?_
  refine lw_goto C0 hK (off := 293) rfl ?_
  exact h hp2 hG2 hR2
theorem lk_32 (C0 : lw_At p s m meth c b L xs) (hK : va_K D nm_cl (px_tys nm_T dA) s) (hl : nm_lvk lv i) (hi : i + 6 ≤ L) (hL : L ≤ 3072) (hG : ab_h nm_GH hp) (hR : nm_R hp) (q1 : nc ≤ nm_rc) (q2 : ns ≤ nm_rs) (h : ∀ hp' : px_H, ab_h nm_GH hp' → nm_R hp' → nm_G p l e s m below meth c b D dA (1686, lv, [], hp', nc, ns)) : nm_G p l e s m below meth c b D dA (1396, lv, [], hp, nc, ns) := by
  obtain ⟨v0, v1, hp1, hp2, c1, hG1, c2, hG2, hv, hR2⟩ := xp_fair (a0 := xs (i + 1)) (a1 := xs (i + 2)) hG hR
  refine lw_aload C0 hK (j := 1) (a := 0) rfl hl.2.1 ?_
  refine lw_sc C0 hK (z := 1) 1 rfl rfl rfl rfl rfl rfl hl (by omega) hL ?_
  refine lw_sc C0 hK (z := 2) 2 rfl rfl rfl rfl rfl rfl hl (by omega) hL ?_
  refine lw_invC C0 hK (mi := mi_X_fair) (n := 2) (a := 0) (N := mm_X_fair) rfl rfl rfl rfl rfl (Nat.le_of_ble_eq_true rfl) (Nat.le_of_ble_eq_true rfl) rfl rfl hG c1 q1 q2 ?_
  refine lw_alu C0 hK (len := 1) rfl rfl ?_
  refine lw_aload C0 hK (j := 2) (a := 69) rfl hl.2.2.1 ?_
  refine lw_sc C0 hK (z := 1) 1 rfl rfl rfl rfl rfl rfl hl (by omega) hL ?_
  refine lw_sc C0 hK (z := 2) 2 rfl rfl rfl rfl rfl rfl hl (by omega) hL ?_
  refine lw_invC C0 hK (mi := mi_M_fair) (n := 2) (a := 69) (N := mm_M_fair) rfl rfl rfl rfl rfl (Nat.le_of_ble_eq_true rfl) (Nat.le_of_ble_eq_true rfl) rfl rfl hG1 c2 q1 q2 ?_
  refine lw_alu C0 hK (len := 1) rfl rfl ?_
  refine lw_goto C0 hK (off := 256) rfl ?_
  exact h hp2 hG2 hR2
end nm_lk
