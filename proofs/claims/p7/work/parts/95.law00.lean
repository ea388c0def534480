section mg_0
/-! the law's cases, from 0 -/
section nm_lk
variable {p : Program} {l : Launch} {e : Env} {s : State} {m : MethodId} {below : List Frame} {meth : Method} {c : Code} {b L : Nat} {xs : Nat → Int32} {D : va_G} {dA : Nat → ClassId}
variable {i nc ns : Nat} {lv : List (Nat × Value)} {hp : px_H}
set_option maxRecDepth 100000
theorem lk_0 (C0 : lw_At p s m meth c b L xs) (hK : va_K D nm_cl (px_tys nm_T dA) s) (hl : nm_lvk lv i) (hi : i + 6 ≤ L) (hL : L ≤ 3072) (hG : ab_h nm_GH hp) (hR : nm_R hp) (q1 : nc ≤ nm_rc) (q2 : ns ≤ nm_rs) (h : ∀ hp' : px_H, ab_h nm_GH hp' → nm_R hp' → nm_G p l e s m below meth c b D dA (1686, lv, [], hp', nc, ns)) : nm_G p l e s m below meth c b D dA (228, lv, [], hp, nc, ns) := by
  obtain ⟨v0, v1, hp1, hp2, c1, hG1, c2, hG2, hv, hR2⟩ := xp_person (a0 := xs (i + 1)) hG hR
  refine lw_aload C0 hK (j := 1) (a := 0) rfl hl.2.1 ?_
  refine lw_sc C0 hK (z := 1) 1 rfl rfl rfl rfl rfl rfl hl (by omega) hL ?_
  refine lw_invC C0 hK (mi := mi_X_person) (n := 1) (a := 0) (N := mm_X_person) rfl rfl rfl rfl rfl (Nat.le_of_ble_eq_true rfl) (Nat.le_of_ble_eq_true rfl) rfl rfl hG c1 q1 q2 ?_
  refine lw_alu C0 hK (len := 1) rfl rfl ?_
  refine lw_aload C0 hK (j := 2) (a := 69) rfl hl.2.2.1 ?_
  refine lw_sc C0 hK (z := 1) 1 rfl rfl rfl rfl rfl rfl hl (by omega) hL ?_
  refine lw_invC C0 hK (mi := mi_M_person) (n := 1) (a := 69) (N := mm_M_person) rfl rfl rfl rfl rfl (Nat.le_of_ble_eq_true rfl) (Nat.le_of_ble_eq_true rfl) rfl rfl hG1 c2 q1 q2 ?_
  refine lw_alu C0 hK (len := 1) rfl rfl ?_
  refine lw_goto C0 hK (off := 1436) rfl ?_
  exact h hp2 hG2 hR2
theorem lk_1 (C0 : lw_At p s m meth c b L xs) (hK : va_K D nm_cl (px_tys nm_T dA) s) (hl : nm_lvk lv i) (hi : i + 6 ≤ L) (hL : L ≤ 3072) (hG : ab_h nm_GH hp) (hR : nm_R hp) (q1 : nc ≤ nm_rc) (q2 : ns ≤ nm_rs) (h : ∀ hp' : px_H, ab_h nm_GH hp' → nm_R hp' → nm_G p l e s m below meth c b D dA (1686, lv, [], hp', nc, ns)) : nm_G p l e s m below meth c b D dA (253, lv, [], hp, nc, ns) := by
  obtain ⟨v0, v1, hp1, hp2, c1, hG1, c2, hG2, hv, hR2⟩ := xp_debt (a0 := xs (i + 1)) (a1 := xs (i + 2)) hG hR
  refine lw_aload C0 hK (j := 1) (a := 0) rfl hl.2.1 ?_
  refine lw_sc C0 hK (z := 1) 1 rfl rfl rfl rfl rfl rfl hl (by omega) hL ?_
  refine lw_sc C0 hK (z := 2) 2 rfl rfl rfl rfl rfl rfl hl (by omega) hL ?_
  refine lw_invC C0 hK (mi := mi_X_debt) (n := 2) (a := 0) (N := mm_X_debt) rfl rfl rfl rfl rfl (Nat.le_of_ble_eq_true rfl) (Nat.le_of_ble_eq_true rfl) rfl rfl hG c1 q1 q2 ?_
  refine lw_alu C0 hK (len := 1) rfl rfl ?_
  refine lw_aload C0 hK (j := 2) (a := 69) rfl hl.2.2.1 ?_
  refine lw_sc C0 hK (z := 1) 1 rfl rfl rfl rfl rfl rfl hl (by omega) hL ?_
  refine lw_sc C0 hK (z := 2) 2 rfl rfl rfl rfl rfl rfl hl (by omega) hL ?_
  refine lw_invC C0 hK (mi := mi_M_debt) (n := 2) (a := 69) (N := mm_M_debt) rfl rfl rfl rfl rfl (Nat.le_of_ble_eq_true rfl) (Nat.le_of_ble_eq_true rfl) rfl rfl hG1 c2 q1 q2 ?_
  refine lw_alu C0 hK (len := 1) rfl rfl ?_
  refine lw_goto C0 hK (off := 1399) rfl ?_
  exact h hp2 hG2 hR2
theorem lk_2 (C0 : lw_At p s m meth c b L xs) (hK : va_K D nm_cl (px_tys nm_T dA) s) (hl : nm_lvk lv i) (hi : i + 6 ≤ L) (hL : L ≤ 3072) (hG : ab_h nm_GH hp) (hR : nm_R hp) (q1 : nc ≤ nm_rc) (q2 : ns ≤ nm_rs) (h : ∀ hp' : px_H, ab_h nm_GH hp' → nm_R hp' → nm_G p l e s m below meth c b D dA (1686, lv, [], hp', nc, ns)) : nm_G p l e s m below meth c b D dA (290, lv, [], hp, nc, ns) := by
  obtain ⟨v0, v1, hp1, hp2, c1, hG1, c2, hG2, hv, hR2⟩ := xp_away (a0 := xs (i + 1)) (a1 := xs (i + 2)) (a2 := xs (i + 3)) hG hR
  refine lw_aload C0 hK (j := 1) (a := 0) rfl hl.2.1 ?_
  refine lw_sc C0 hK (z := 1) 1 rfl rfl rfl rfl rfl rfl hl (by omega) hL ?_
  refine lw_sc C0 hK (z := 2) 2 rfl rfl rfl rfl rfl rfl hl (by omega) hL ?_
  refine lw_sc C0 hK (z := 3) 3 rfl rfl rfl rfl rfl rfl hl (by omega) hL ?_
  refine lw_invC C0 hK (mi := mi_X_away) (n := 3) (a := 0) (N := mm_X_away) rfl rfl rfl rfl rfl (Nat.le_of_ble_eq_true rfl) (Nat.le_of_ble_eq_true rfl) rfl rfl hG c1 q1 q2 ?_
  refine lw_alu C0 hK (len := 1) rfl rfl ?_
  refine lw_aload C0 hK (j := 2) (a := 69) rfl hl.2.2.1 ?_
  refine lw_sc C0 hK (z := 1) 1 rfl rfl rfl rfl rfl rfl hl (by omega) hL ?_
  refine lw_sc C0 hK (z := 2) 2 rfl rfl rfl rfl rfl rfl hl (by omega) hL ?_
  refine lw_sc C0 hK (z := 3) 3 rfl rfl rfl rfl rfl rfl hl (by omega) hL ?_
  refine lw_invC C0 hK (mi := mi_M_away) (n := 3) (a := 69) (N := mm_M_away) rfl rfl rfl rfl rfl (Nat.le_of_ble_eq_true rfl) (Nat.le_of_ble_eq_true rfl) rfl rfl hG1 c2 q1 q2 ?_
  refine lw_alu C0 hK (len := 1) rfl rfl ?_
  refine lw_goto C0 hK (off := 1350) rfl ?_
  exact h hp2 hG2 hR2
theorem lk_3 (C0 : lw_At p s m meth c b L xs) (hK : va_K D nm_cl (px_tys nm_T dA) s) (hl : nm_lvk lv i) (hi : i + 6 ≤ L) (hL : L ≤ 3072) (hG : ab_h nm_GH hp) (hR : nm_R hp) (q1 : nc ≤ nm_rc) (q2 : ns ≤ nm_rs) (h : ∀ hp' : px_H, ab_h nm_GH hp' → nm_R hp' → nm_G p l e s m below meth c b D dA (1686, lv, [], hp', nc, ns)) : nm_G p l e s m below meth c b D dA (339, lv, [], hp, nc, ns) := by
  obtain ⟨v0, v1, hp1, hp2, c1, hG1, c2, hG2, hv, hR2⟩ := xp_dies (a0 := xs (i + 1)) (a1 := xs (i + 2)) hG hR
  refine lw_aload C0 hK (j := 1) (a := 0) rfl hl.2.1 ?_
  refine lw_sc C0 hK (z := 1) 1 rfl rfl rfl rfl rfl rfl hl (by omega) hL ?_
  refine lw_sc C0 hK (z := 2) 2 rfl rfl rfl rfl rfl rfl hl (by omega) hL ?_
  refine lw_invC C0 hK (mi := mi_X_dies) (n := 2) (a := 0) (N := mm_X_dies) rfl rfl rfl rfl rfl (Nat.le_of_ble_eq_true rfl) (Nat.le_of_ble_eq_true rfl) rfl rfl hG c1 q1 q2 ?_
  refine lw_alu C0 hK (len := 1) rfl rfl ?_
  refine lw_aload C0 hK (j := 2) (a := 69) rfl hl.2.2.1 ?_
  refine lw_sc C0 hK (z := 1) 1 rfl rfl rfl rfl rfl rfl hl (by omega) hL ?_
  refine lw_sc C0 hK (z := 2) 2 rfl rfl rfl rfl rfl rfl hl (by omega) hL ?_
  refine lw_invC C0 hK (mi := mi_M_dies) (n := 2) (a := 69) (N := mm_M_dies) rfl rfl rfl rfl rfl (Nat.le_of_ble_eq_true rfl) (Nat.le_of_ble_eq_true rfl) rfl rfl hG1 c2 q1 q2 ?_
  refine lw_alu C0 hK (len := 1) rfl rfl ?_
  refine lw_goto C0 hK (off := 1313) rfl ?_
  exact h hp2 hG2 hR2
theorem lk_4 (C0 : lw_At p s m meth c b L xs) (hK : va_K D nm_cl (px_tys nm_T dA) s) (hl : nm_lvk lv i) (hi : i + 6 ≤ L) (hL : L ≤ 3072) (hG : ab_h nm_GH hp) (hR : nm_R hp) (q1 : nc ≤ nm_rc) (q2 : ns ≤ nm_rs) (h : ∀ hp' : px_H, ab_h nm_GH hp' → nm_R hp' → nm_G p l e s m below meth c b D dA (1686, lv, [], hp', nc, ns)) : nm_G p l e s m below meth c b D dA (376, lv, [], hp, nc, ns) := by
  obtain ⟨v0, v1, hp1, hp2, c1, hG1, c2, hG2, hv, hR2⟩ := xp_sheet (a0 := xs (i + 1)) (a1 := xs (i + 2)) (a2 := xs (i + 3)) (a3 := xs (i + 4)) hG hR
  refine lw_aload C0 hK (j := 1) (a := 0) rfl hl.2.1 ?_
  refine lw_sc C0 hK (z := 1) 1 rfl rfl rfl rfl rfl rfl hl (by omega) hL ?_
  refine lw_sc C0 hK (z := 2) 2 rfl rfl rfl rfl rfl rfl hl (by omega) hL ?_
  refine lw_sc C0 hK (z := 3) 3 rfl rfl rfl rfl rfl rfl hl (by omega) hL ?_
  refine lw_sc C0 hK (z := 4) 4 rfl rfl rfl rfl rfl rfl hl (by omega) hL ?_
  refine lw_invC C0 hK (mi := mi_X_sheet) (n := 4) (a := 0) (N := mm_X_sheet) rfl rfl rfl rfl rfl (Nat.le_of_ble_eq_true rfl) (Nat.le_of_ble_eq_true rfl) rfl rfl hG c1 q1 q2 ?_
  refine lw_alu C0 hK (len := 1) rfl rfl ?_
  refine lw_aload C0 hK (j := 2) (a := 69) rfl hl.2.2.1 ?_
  refine lw_sc C0 hK (z := 1) 1 rfl rfl rfl rfl rfl rfl hl (by omega) hL ?_
  refine lw_sc C0 hK (z := 2) 2 rfl rfl rfl rfl rfl rfl hl (by omega) hL ?_
  refine lw_sc C0 hK (z := 3) 3 rfl rfl rfl rfl rfl rfl hl (by omega) hL ?_
  refine lw_sc C0 hK (z := 4) 4 rfl rfl rfl rfl rfl rfl hl (by omega) hL ?_
  refine lw_invC C0 hK (mi := mi_M_sheet) (n := 4) (a := 69) (N := mm_M_sheet) rfl rfl rfl rfl rfl (Nat.le_of_ble_eq_true rfl) (Nat.le_of_ble_eq_true rfl) rfl rfl hG1 c2 q1 q2 ?_
  refine lw_alu C0 hK (len := 1) rfl rfl ?_
  refine lw_goto C0 hK (off := 1252) rfl ?_
  exact h hp2 hG2 hR2
theorem lk_5 (C0 : lw_At p s m meth c b L xs) (hK : va_K D nm_cl (px_tys nm_T dA) s) (hl : nm_lvk lv i) (hi : i + 6 ≤ L) (hL : L ≤ 3072) (hG : ab_h nm_GH hp) (hR : nm_R hp) (q1 : nc ≤ nm_rc) (q2 : ns ≤ nm_rs) (h : ∀ hp' : px_H, ab_h nm_GH hp' → nm_R hp' → nm_G p l e s m below meth c b D dA (1686, lv, [], hp', nc, ns)) : nm_G p l e s m below meth c b D dA (437, lv, [], hp, nc, ns) := by
  obtain ⟨v0, v1, hp1, hp2, c1, hG1, c2, hG2, hv, hR2⟩ := xp_pack (a0 := xs (i + 1)) (a1 := xs (i + 2)) hG hR
  refine lw_aload C0 hK (j := 1) (a := 0) rfl hl.2.1 ?_
  refine lw_sc C0 hK (z := 1) 1 rfl rfl rfl rfl rfl rfl hl (by omega) hL ?_
  refine lw_sc C0 hK (z := 2) 2 rfl rfl rfl rfl rfl rfl hl (by omega) hL ?_
  refine lw_invC C0 hK (mi := mi_X_pack) (n := 2) (a := 0) (N := mm_X_pack) rfl rfl rfl rfl rfl (Nat.le_of_ble_eq_true rfl) (Nat.le_of_ble_eq_true rfl) rfl rfl hG c1 q1 q2 ?_
  refine lw_aload C0 hK (j := 2) (a := 69) rfl hl.2.2.1 ?_
  refine lw_sc C0 hK (z := 1) 1 rfl rfl rfl rfl rfl rfl hl (by omega) hL ?_
  refine lw_sc C0 hK (z := 2) 2 rfl rfl rfl rfl rfl rfl hl (by omega) hL ?_
  refine lw_invC C0 hK (mi := mi_M_pack) (n := 2) (a := 69) (N := mm_M_pack) rfl rfl rfl rfl rfl (Nat.le_of_ble_eq_true rfl) (Nat.le_of_ble_eq_true rfl) rfl rfl hG1 c2 q1 q2 ?_
  have hv := hv rfl
  refine lw_ieq C0 hK (off := 1217) rfl hv ?_
  exact h hp2 hG2 hR2
theorem lk_6 (C0 : lw_At p s m meth c b L xs) (hK : va_K D nm_cl (px_tys nm_T dA) s) (hl : nm_lvk lv i) (hi : i + 6 ≤ L) (hL : L ≤ 3072) (hG : ab_h nm_GH hp) (hR : nm_R hp) (q1 : nc ≤ nm_rc) (q2 : ns ≤ nm_rs) (h : ∀ hp' : px_H, ab_h nm_GH hp' → nm_R hp' → nm_G p l e s m below meth c b D dA (1686, lv, [], hp', nc, ns)) : nm_G p l e s m below meth c b D dA (474, lv, [], hp, nc, ns) := by
  obtain ⟨v0, v1, hp1, hp2, c1, hG1, c2, hG2, hv, hR2⟩ := xp_renew (a0 := xs (i + 1)) (a1 := nm_b01 (xs (i + 2))) (nm_b01_in _) hG hR
  refine lw_aload C0 hK (j := 1) (a := 0) rfl hl.2.1 ?_
  refine lw_sc C0 hK (z := 1) 1 rfl rfl rfl rfl rfl rfl hl (by omega) hL ?_
  refine lw_sc C0 hK (z := 2) 2 rfl rfl rfl rfl rfl rfl hl (by omega) hL ?_
  refine lw_bool C0 hK rfl rfl rfl rfl rfl rfl ?_
  refine lw_invC C0 hK (mi := mi_X_renew) (n := 2) (a := 0) (N := mm_X_renew) rfl rfl rfl rfl rfl (Nat.le_of_ble_eq_true rfl) (Nat.le_of_ble_eq_true rfl) rfl rfl hG c1 q1 q2 ?_
  refine lw_alu C0 hK (len := 1) rfl rfl ?_
  refine lw_aload C0 hK (j := 2) (a := 69) rfl hl.2.2.1 ?_
  refine lw_sc C0 hK (z := 1) 1 rfl rfl rfl rfl rfl rfl hl (by omega) hL ?_
  refine lw_sc C0 hK (z := 2) 2 rfl rfl rfl rfl rfl rfl hl (by omega) hL ?_
  refine lw_bool C0 hK rfl rfl rfl rfl rfl rfl ?_
  refine lw_invC C0 hK (mi := mi_M_renew) (n := 2) (a := 69) (N := mm_M_renew) rfl rfl rfl rfl rfl (Nat.le_of_ble_eq_true rfl) (Nat.le_of_ble_eq_true rfl) rfl rfl hG1 c2 q1 q2 ?_
  refine lw_alu C0 hK (len := 1) rfl rfl ?_
  refine lw_goto C0 hK (off := 1162) rfl ?_
  exact h hp2 hG2 hR2
theorem lk_7 (C0 : lw_At p s m meth c b L xs) (hK : va_K D nm_cl (px_tys nm_T dA) s) (hl : nm_lvk lv i) (hi : i + 6 ≤ L) (hL : L ≤ 3072) (hG : ab_h nm_GH hp) (hR : nm_R hp) (q1 : nc ≤ nm_rc) (q2 : ns ≤ nm_rs) (h : ∀ hp' : px_H, ab_h nm_GH hp' → nm_R hp' → nm_G p l e s m below meth c b D dA (1686, lv, [], hp', nc, ns)) : nm_G p l e s m below meth c b D dA (527, lv, [], hp, nc, ns) := by
  obtain ⟨v0, v1, hp1, hp2, c1, hG1, c2, hG2, hv, hR2⟩ := xp_drawing (a0 := xs (i + 1)) (a1 := xs (i + 2)) (a2 := xs (i + 3)) hG hR
  refine lw_aload C0 hK (j := 1) (a := 0) rfl hl.2.1 ?_
  refine lw_sc C0 hK (z := 1) 1 rfl rfl rfl rfl rfl rfl hl (by omega) hL ?_
  refine lw_sc C0 hK (z := 2) 2 rfl rfl rfl rfl rfl rfl hl (by omega) hL ?_
  refine lw_sc C0 hK (z := 3) 3 rfl rfl rfl rfl rfl rfl hl (by omega) hL ?_
  refine lw_invC C0 hK (mi := mi_X_drawing) (n := 3) (a := 0) (N := mm_X_drawing) rfl rfl rfl rfl rfl (Nat.le_of_ble_eq_true rfl) (Nat.le_of_ble_eq_true rfl) rfl rfl hG c1 q1 q2 ?_
  refine lw_alu C0 hK (len := 1) rfl rfl ?_
  refine lw_aload C0 hK (j := 2) (a := 69) rfl hl.2.2.1 ?_
  refine lw_sc C0 hK (z := 1) 1 rfl rfl rfl rfl rfl rfl hl (by omega) hL ?_
  refine lw_sc C0 hK (z := 2) 2 rfl rfl rfl rfl rfl rfl hl (by omega) hL ?_
  refine lw_sc C0 hK (z := 3) 3 rfl rfl rfl rfl rfl rfl hl (by omega) hL ?_
  refine lw_invC C0 hK (mi := mi_M_drawing) (n := 3) (a := 69) (N := mm_M_drawing) rfl rfl rfl rfl rfl (Nat.le_of_ble_eq_true rfl) (Nat.le_of_ble_eq_true rfl) rfl rfl hG1 c2 q1 q2 ?_
  refine lw_alu C0 hK (len := 1) rfl rfl ?_
  refine lw_goto C0 hK (off := 1113) rfl ?_
  exact h hp2 hG2 hR2
theorem lk_8 (C0 : lw_At p s m meth c b L xs) (hK : va_K D nm_cl (px_tys nm_T dA) s) (hl : nm_lvk lv i) (hi : i + 6 ≤ L) (hL : L ≤ 3072) (hG : ab_h nm_GH hp) (hR : nm_R hp) (q1 : nc ≤ nm_rc) (q2 : ns ≤ nm_rs) (h : ∀ hp' : px_H, ab_h nm_GH hp' → nm_R hp' → nm_G p l e s m below meth c b D dA (1686, lv, [], hp', nc, ns)) : nm_G p l e s m below meth c b D dA (576, lv, [], hp, nc, ns) := by
  obtain ⟨v0, v1, hp1, hp2, c1, hG1, c2, hG2, hv, hR2⟩ := xp_sign (a0 := xs (i + 1)) hG hR
  refine lw_aload C0 hK (j := 1) (a := 0) rfl hl.2.1 ?_
  refine lw_sc C0 hK (z := 1) 1 rfl rfl rfl rfl rfl rfl hl (by omega) hL ?_
  refine lw_invC C0 hK (mi := mi_X_sign) (n := 1) (a := 0) (N := mm_X_sign) rfl rfl rfl rfl rfl (Nat.le_of_ble_eq_true rfl) (Nat.le_of_ble_eq_true rfl) rfl rfl hG c1 q1 q2 ?_
  refine lw_alu C0 hK (len := 1) rfl rfl ?_
  refine lw_aload C0 hK (j := 2) (a := 69) rfl hl.2.2.1 ?_
  refine lw_sc C0 hK (z := 1) 1 rfl rfl rfl rfl rfl rfl hl (by omega) hL ?_
  refine lw_invC C0 hK (mi := mi_M_sign) (n := 1) (a := 69) (N := mm_M_sign) rfl rfl rfl rfl rfl (Nat.le_of_ble_eq_true rfl) (Nat.le_of_ble_eq_true rfl) rfl rfl hG1 c2 q1 q2 ?_
  refine lw_alu C0 hK (len := 1) rfl rfl ?_
  refine lw_goto C0 hK (off := 1088) rfl ?_
  exact h hp2 hG2 hR2
theorem lk_9 (C0 : lw_At p s m meth c b L xs) (hK : va_K D nm_cl (px_tys nm_T dA) s) (hl : nm_lvk lv i) (hi : i + 6 ≤ L) (hL : L ≤ 3072) (hG : ab_h nm_GH hp) (hR : nm_R hp) (q1 : nc ≤ nm_rc) (q2 : ns ≤ nm_rs) (h : ∀ hp' : px_H, ab_h nm_GH hp' → nm_R hp' → nm_G p l e s m below meth c b D dA (1686, lv, [], hp', nc, ns)) : nm_G p l e s m below meth c b D dA (601, lv, [], hp, nc, ns) := by
  obtain ⟨v0, v1, hp1, hp2, c1, hG1, c2, hG2, hv, hR2⟩ := xp_end (a0 := xs (i + 1)) hG hR
  refine lw_aload C0 hK (j := 1) (a := 0) rfl hl.2.1 ?_
  refine lw_sc C0 hK (z := 1) 1 rfl rfl rfl rfl rfl rfl hl (by omega) hL ?_
  refine lw_invC C0 hK (mi := mi_X_end) (n := 1) (a := 0) (N := mm_X_end) rfl rfl rfl rfl rfl (Nat.le_of_ble_eq_true rfl) (Nat.le_of_ble_eq_true rfl) rfl rfl hG c1 q1 q2 ?_
  refine lw_alu C0 hK (len := 1) rfl rfl ?_
  refine lw_aload C0 hK (j := 2) (a := 69) rfl hl.2.2.1 ?_
  refine lw_sc C0 hK (z := 1) 1 rfl rfl rfl rfl rfl rfl hl (by omega) hL ?_
  refine lw_invC C0 hK (mi := mi_M_end) (n := 1) (a := 69) (N := mm_M_end) rfl rfl rfl rfl rfl (Nat.le_of_ble_eq_true rfl) (Nat.le_of_ble_eq_true rfl) rfl rfl hG1 c2 q1 q2 ?_
  refine lw_alu C0 hK (len := 1) rfl rfl ?_
  refine lw_goto C0 hK (off := 1063) rfl ?_
  exact h hp2 hG2 hR2
theorem lk_10 (C0 : lw_At p s m meth c b L xs) (hK : va_K D nm_cl (px_tys nm_T dA) s) (hl : nm_lvk lv i) (hi : i + 6 ≤ L) (hL : L ≤ 3072) (hG : ab_h nm_GH hp) (hR : nm_R hp) (q1 : nc ≤ nm_rc) (q2 : ns ≤ nm_rs) (h : ∀ hp' : px_H, ab_h nm_GH hp' → nm_R hp' → nm_G p l e s m below meth c b D dA (1686, lv, [], hp', nc, ns)) : nm_G p l e s m below meth c b D dA (626, lv, [], hp, nc, ns) := by
  obtain ⟨v0, v1, hp1, hp2, c1, hG1, c2, hG2, hv, hR2⟩ := xp_rule hG hR
  refine lw_aload C0 hK (j := 1) (a := 0) rfl hl.2.1 ?_
  refine lw_invC C0 hK (mi := mi_X_rule) (n := 0) (a := 0) (N := mm_X_rule) rfl rfl rfl rfl rfl (Nat.le_of_ble_eq_true rfl) (Nat.le_of_ble_eq_true rfl) rfl rfl hG c1 q1 q2 ?_
  refine lw_alu C0 hK (len := 1) rfl rfl ?_
  refine lw_aload C0 hK (j := 2) (a := 69) rfl hl.2.2.1 ?_
  refine lw_invC C0 hK (mi := mi_M_rule) (n := 0) (a := 69) (N := mm_M_rule) rfl rfl rfl rfl rfl (Nat.le_of_ble_eq_true rfl) (Nat.le_of_ble_eq_true rfl) rfl rfl hG1 c2 q1 q2 ?_
  refine lw_alu C0 hK (len := 1) rfl rfl ?_
  refine lw_goto C0 hK (off := 1050) rfl ?_
  exact h hp2 hG2 hR2
end nm_lk
end mg_0

section mg_1
/-! the law's cases, from 11 -/
section nm_lk
variable {p : Program} {l : Launch} {e : Env} {s : State} {m : MethodId} {below : List Frame} {meth : Method} {c : Code} {b L : Nat} {xs : Nat → Int32} {D : va_G} {dA : Nat → ClassId}
variable {i nc ns : Nat} {lv : List (Nat × Value)} {hp : px_H}
set_option maxRecDepth 100000
theorem lk_11 (C0 : lw_At p s m meth c b L xs) (hK : va_K D nm_cl (px_tys nm_T dA) s) (hl : nm_lvk lv i) (hi : i + 6 ≤ L) (hL : L ≤ 3072) (hG : ab_h nm_GH hp) (hR : nm_R hp) (q1 : nc ≤ nm_rc) (q2 : ns ≤ nm_rs) (h : ∀ hp' : px_H, ab_h nm_GH hp' → nm_R hp' → nm_G p l e s m below meth c b D dA (1686, lv, [], hp', nc, ns)) : nm_G p l e s m below meth c b D dA (639, lv, [], hp, nc, ns) := by
  obtain ⟨v0, v1, hp1, hp2, c1, hG1, c2, hG2, hv, hR2⟩ := xp_other (a0 := xs (i + 1)) hG hR
  refine lw_aload C0 hK (j := 1) (a := 0) rfl hl.2.1 ?_
  refine lw_sc C0 hK (z := 1) 1 rfl rfl rfl rfl rfl rfl hl (by omega) hL ?_
  refine lw_invC C0 hK (mi := mi_X_other) (n := 1) (a := 0) (N := mm_X_other) rfl rfl rfl rfl rfl (Nat.le_of_ble_eq_true rfl) (Nat.le_of_ble_eq_true rfl) rfl rfl hG c1 q1 q2 ?_
  refine lw_alu C0 hK (len := 1) rfl rfl ?_
  refine lw_aload C0 hK (j := 2) (a := 69) rfl hl.2.2.1 ?_
  refine lw_sc C0 hK (z := 1) 1 rfl rfl rfl rfl rfl rfl hl (by omega) hL ?_
  refine lw_invC C0 hK (mi := mi_M_other) (n := 1) (a := 69) (N := mm_M_other) rfl rfl rfl rfl rfl (Nat.le_of_ble_eq_true rfl) (Nat.le_of_ble_eq_true rfl) rfl rfl hG1 c2 q1 q2 ?_
  refine lw_alu C0 hK (len := 1) rfl rfl ?_
  refine lw_goto C0 hK (off := 1025) rfl ?_
  exact h hp2 hG2 hR2
theorem lk_12 (C0 : lw_At p s m meth c b L xs) (hK : va_K D nm_cl (px_tys nm_T dA) s) (hl : nm_lvk lv i) (hi : i + 6 ≤ L) (hL : L ≤ 3072) (hG : ab_h nm_GH hp) (hR : nm_R hp) (q1 : nc ≤ nm_rc) (q2 : ns ≤ nm_rs) (h : ∀ hp' : px_H, ab_h nm_GH hp' → nm_R hp' → nm_G p l e s m below meth c b D dA (1686, lv, [], hp', nc, ns)) : nm_G p l e s m below meth c b D dA (664, lv, [], hp, nc, ns) := by
  obtain ⟨v0, v1, hp1, hp2, c1, hG1, c2, hG2, hv, hR2⟩ := xp_bars (a0 := xs (i + 1)) hG hR
  refine lw_aload C0 hK (j := 1) (a := 0) rfl hl.2.1 ?_
  refine lw_sc C0 hK (z := 1) 1 rfl rfl rfl rfl rfl rfl hl (by omega) hL ?_
  refine lw_invC C0 hK (mi := mi_X_bars) (n := 1) (a := 0) (N := mm_X_bars) rfl rfl rfl rfl rfl (Nat.le_of_ble_eq_true rfl) (Nat.le_of_ble_eq_true rfl) rfl rfl hG c1 q1 q2 ?_
  refine lw_alu C0 hK (len := 1) rfl rfl ?_
  refine lw_aload C0 hK (j := 2) (a := 69) rfl hl.2.2.1 ?_
  refine lw_sc C0 hK (z := 1) 1 rfl rfl rfl rfl rfl rfl hl (by omega) hL ?_
  refine lw_invC C0 hK (mi := mi_M_bars) (n := 1) (a := 69) (N := mm_M_bars) rfl rfl rfl rfl rfl (Nat.le_of_ble_eq_true rfl) (Nat.le_of_ble_eq_true rfl) rfl rfl hG1 c2 q1 q2 ?_
  refine lw_alu C0 hK (len := 1) rfl rfl ?_
  refine lw_goto C0 hK (off := 1000) rfl ?_
  exact h hp2 hG2 hR2
theorem lk_13 (C0 : lw_At p s m meth c b L xs) (hK : va_K D nm_cl (px_tys nm_T dA) s) (hl : nm_lvk lv i) (hi : i + 6 ≤ L) (hL : L ≤ 3072) (hG : ab_h nm_GH hp) (hR : nm_R hp) (q1 : nc ≤ nm_rc) (q2 : ns ≤ nm_rs) (h : ∀ hp' : px_H, ab_h nm_GH hp' → nm_R hp' → nm_G p l e s m below meth c b D dA (1686, lv, [], hp', nc, ns)) : nm_G p l e s m below meth c b D dA (689, lv, [], hp, nc, ns) := by
  obtain ⟨v0, v1, hp1, hp2, c1, hG1, c2, hG2, hv, hR2⟩ := xp_run hG hR
  refine lw_aload C0 hK (j := 1) (a := 0) rfl hl.2.1 ?_
  refine lw_invC C0 hK (mi := mi_X_run) (n := 0) (a := 0) (N := mm_X_run) rfl rfl rfl rfl rfl (Nat.le_of_ble_eq_true rfl) (Nat.le_of_ble_eq_true rfl) rfl rfl hG c1 q1 q2 ?_
  refine lw_alu C0 hK (len := 1) rfl rfl ?_
  refine lw_aload C0 hK (j := 2) (a := 69) rfl hl.2.2.1 ?_
  refine lw_invC C0 hK (mi := mi_M_run) (n := 0) (a := 69) (N := mm_M_run) rfl rfl rfl rfl rfl (Nat.le_of_ble_eq_true rfl) (Nat.le_of_ble_eq_true rfl) rfl rfl hG1 c2 q1 q2 ?_
  refine lw_alu C0 hK (len := 1) rfl rfl ?_
  refine lw_goto C0 hK (off := 987) rfl ?_
  exact h hp2 hG2 hR2
theorem lk_14 (C0 : lw_At p s m meth c b L xs) (hK : va_K D nm_cl (px_tys nm_T dA) s) (hl : nm_lvk lv i) (hi : i + 6 ≤ L) (hL : L ≤ 3072) (hG : ab_h nm_GH hp) (hR : nm_R hp) (q1 : nc ≤ nm_rc) (q2 : ns ≤ nm_rs) (h : ∀ hp' : px_H, ab_h nm_GH hp' → nm_R hp' → nm_G p l e s m below meth c b D dA (1686, lv, [], hp', nc, ns)) : nm_G p l e s m below meth c b D dA (702, lv, [], hp, nc, ns) := by
  obtain ⟨v0, v1, hp1, hp2, c1, hG1, c2, hG2, hv, hR2⟩ := xp_judge (a0 := (((xs (i + 1)).toInt64) <<< (((Int8.ofInt 32).toInt32).toInt64 &&& 63)) ||| (((xs (i + 2)).toInt64) &&& (Int64.ofInt 4294967295))) (a1 := xs (i + 3)) hG hR
  refine lw_aload C0 hK (j := 1) (a := 0) rfl hl.2.1 ?_
  refine lw_sc C0 hK (z := 1) 1 rfl rfl rfl rfl rfl rfl hl (by omega) hL ?_
  refine lw_alu C0 hK (len := 1) rfl rfl ?_
  refine lw_alu C0 hK (len := 2) rfl rfl ?_
  refine lw_alu C0 hK (len := 1) rfl rfl ?_
  refine lw_sc C0 hK (z := 2) 2 rfl rfl rfl rfl rfl rfl hl (by omega) hL ?_
  refine lw_alu C0 hK (len := 1) rfl rfl ?_
  refine lw_ldc2 C0 hK (v := 4294967295) rfl rfl ?_
  refine lw_alu C0 hK (len := 1) rfl rfl ?_
  refine lw_alu C0 hK (len := 1) rfl rfl ?_
  refine lw_sc C0 hK (z := 3) 3 rfl rfl rfl rfl rfl rfl hl (by omega) hL ?_
  refine lw_invC C0 hK (mi := mi_X_judge) (n := 2) (a := 0) (N := mm_X_judge) rfl rfl rfl rfl rfl (Nat.le_of_ble_eq_true rfl) (Nat.le_of_ble_eq_true rfl) rfl rfl hG c1 q1 q2 ?_
  refine lw_alu C0 hK (len := 1) rfl rfl ?_
  refine lw_aload C0 hK (j := 2) (a := 69) rfl hl.2.2.1 ?_
  refine lw_sc C0 hK (z := 1) 1 rfl rfl rfl rfl rfl rfl hl (by omega) hL ?_
  refine lw_alu C0 hK (len := 1) rfl rfl ?_
  refine lw_alu C0 hK (len := 2) rfl rfl ?_
  refine lw_alu C0 hK (len := 1) rfl rfl ?_
  refine lw_sc C0 hK (z := 2) 2 rfl rfl rfl rfl rfl rfl hl (by omega) hL ?_
  refine lw_alu C0 hK (len := 1) rfl rfl ?_
  refine lw_ldc2 C0 hK (v := 4294967295) rfl rfl ?_
  refine lw_alu C0 hK (len := 1) rfl rfl ?_
  refine lw_alu C0 hK (len := 1) rfl rfl ?_
  refine lw_sc C0 hK (z := 3) 3 rfl rfl rfl rfl rfl rfl hl (by omega) hL ?_
  refine lw_invC C0 hK (mi := mi_M_judge) (n := 2) (a := 69) (N := mm_M_judge) rfl rfl rfl rfl rfl (Nat.le_of_ble_eq_true rfl) (Nat.le_of_ble_eq_true rfl) rfl rfl hG1 c2 q1 q2 ?_
  refine lw_alu C0 hK (len := 1) rfl rfl ?_
  refine lw_goto C0 hK (off := 918) rfl ?_
  exact h hp2 hG2 hR2
theorem lk_15 (C0 : lw_At p s m meth c b L xs) (hK : va_K D nm_cl (px_tys nm_T dA) s) (hl : nm_lvk lv i) (hi : i + 6 ≤ L) (hL : L ≤ 3072) (hG : ab_h nm_GH hp) (hR : nm_R hp) (q1 : nc ≤ nm_rc) (q2 : ns ≤ nm_rs) (h : ∀ hp' : px_H, ab_h nm_GH hp' → nm_R hp' → nm_G p l e s m below meth c b D dA (1686, lv, [], hp', nc, ns)) : nm_G p l e s m below meth c b D dA (771, lv, [], hp, nc, ns) := by
  obtain ⟨v0, v1, hp1, hp2, c1, hG1, c2, hG2, hv, hR2⟩ := xp_hold (a0 := (((xs (i + 1)).toInt64) <<< (((Int8.ofInt 32).toInt32).toInt64 &&& 63)) ||| (((xs (i + 2)).toInt64) &&& (Int64.ofInt 4294967295))) (a1 := xs (i + 3)) hG hR
  refine lw_aload C0 hK (j := 1) (a := 0) rfl hl.2.1 ?_
  refine lw_sc C0 hK (z := 1) 1 rfl rfl rfl rfl rfl rfl hl (by omega) hL ?_
  refine lw_alu C0 hK (len := 1) rfl rfl ?_
  refine lw_alu C0 hK (len := 2) rfl rfl ?_
  refine lw_alu C0 hK (len := 1) rfl rfl ?_
  refine lw_sc C0 hK (z := 2) 2 rfl rfl rfl rfl rfl rfl hl (by omega) hL ?_
  refine lw_alu C0 hK (len := 1) rfl rfl ?_
  refine lw_ldc2 C0 hK (v := 4294967295) rfl rfl ?_
  refine lw_alu C0 hK (len := 1) rfl rfl ?_
  refine lw_alu C0 hK (len := 1) rfl rfl ?_
  refine lw_sc C0 hK (z := 3) 3 rfl rfl rfl rfl rfl rfl hl (by omega) hL ?_
  refine lw_invC C0 hK (mi := mi_X_hold) (n := 2) (a := 0) (N := mm_X_hold) rfl rfl rfl rfl rfl (Nat.le_of_ble_eq_true rfl) (Nat.le_of_ble_eq_true rfl) rfl rfl hG c1 q1 q2 ?_
  refine lw_alu C0 hK (len := 1) rfl rfl ?_
  refine lw_aload C0 hK (j := 2) (a := 69) rfl hl.2.2.1 ?_
  refine lw_sc C0 hK (z := 1) 1 rfl rfl rfl rfl rfl rfl hl (by omega) hL ?_
  refine lw_alu C0 hK (len := 1) rfl rfl ?_
  refine lw_alu C0 hK (len := 2) rfl rfl ?_
  refine lw_alu C0 hK (len := 1) rfl rfl ?_
  refine lw_sc C0 hK (z := 2) 2 rfl rfl rfl rfl rfl rfl hl (by omega) hL ?_
  refine lw_alu C0 hK (len := 1) rfl rfl ?_
  refine lw_ldc2 C0 hK (v := 4294967295) rfl rfl ?_
  refine lw_alu C0 hK (len := 1) rfl rfl ?_
  refine lw_alu C0 hK (len := 1) rfl rfl ?_
  refine lw_sc C0 hK (z := 3) 3 rfl rfl rfl rfl rfl rfl hl (by omega) hL ?_
  refine lw_invC C0 hK (mi := mi_M_hold) (n := 2) (a := 69) (N := mm_M_hold) rfl rfl rfl rfl rfl (Nat.le_of_ble_eq_true rfl) (Nat.le_of_ble_eq_true rfl) rfl rfl hG1 c2 q1 q2 ?_
  refine lw_alu C0 hK (len := 1) rfl rfl ?_
  refine lw_goto C0 hK (off := 849) rfl ?_
  exact h hp2 hG2 hR2
theorem lk_16 (C0 : lw_At p s m meth c b L xs) (hK : va_K D nm_cl (px_tys nm_T dA) s) (hl : nm_lvk lv i) (hi : i + 6 ≤ L) (hL : L ≤ 3072) (hG : ab_h nm_GH hp) (hR : nm_R hp) (q1 : nc ≤ nm_rc) (q2 : ns ≤ nm_rs) (h : ∀ hp' : px_H, ab_h nm_GH hp' → nm_R hp' → nm_G p l e s m below meth c b D dA (1686, lv, [], hp', nc, ns)) : nm_G p l e s m below meth c b D dA (840, lv, [], hp, nc, ns) := by
  obtain ⟨v0, v1, hp1, hp2, c1, hG1, c2, hG2, hv, hR2⟩ := xp_begin hG hR
  refine lw_aload C0 hK (j := 1) (a := 0) rfl hl.2.1 ?_
  refine lw_invC C0 hK (mi := mi_X_begin) (n := 0) (a := 0) (N := mm_X_begin) rfl rfl rfl rfl rfl (Nat.le_of_ble_eq_true rfl) (Nat.le_of_ble_eq_true rfl) rfl rfl hG c1 q1 q2 ?_
  refine lw_alu C0 hK (len := 1) rfl rfl ?_
  refine lw_aload C0 hK (j := 2) (a := 69) rfl hl.2.2.1 ?_
  refine lw_invC C0 hK (mi := mi_M_begin) (n := 0) (a := 69) (N := mm_M_begin) rfl rfl rfl rfl rfl (Nat.le_of_ble_eq_true rfl) (Nat.le_of_ble_eq_true rfl) rfl rfl hG1 c2 q1 q2 ?_
  refine lw_alu C0 hK (len := 1) rfl rfl ?_
  refine lw_goto C0 hK (off := 836) rfl ?_
  exact h hp2 hG2 hR2
theorem lk_17 (C0 : lw_At p s m meth c b L xs) (hK : va_K D nm_cl (px_tys nm_T dA) s) (hl : nm_lvk lv i) (hi : i + 6 ≤ L) (hL : L ≤ 3072) (hG : ab_h nm_GH hp) (hR : nm_R hp) (q1 : nc ≤ nm_rc) (q2 : ns ≤ nm_rs) (h : ∀ hp' : px_H, ab_h nm_GH hp' → nm_R hp' → nm_G p l e s m below meth c b D dA (1686, lv, [], hp', nc, ns)) : nm_G p l e s m below meth c b D dA (853, lv, [], hp, nc, ns) := by
  obtain ⟨v0, v1, hp1, hp2, c1, hG1, c2, hG2, hv, hR2⟩ := xp_bag (a0 := xs (i + 1)) (a1 := xs (i + 2)) hG hR
  refine lw_aload C0 hK (j := 1) (a := 0) rfl hl.2.1 ?_
  refine lw_sc C0 hK (z := 1) 1 rfl rfl rfl rfl rfl rfl hl (by omega) hL ?_
  refine lw_sc C0 hK (z := 2) 2 rfl rfl rfl rfl rfl rfl hl (by omega) hL ?_
  refine lw_invC C0 hK (mi := mi_X_bag) (n := 2) (a := 0) (N := mm_X_bag) rfl rfl rfl rfl rfl (Nat.le_of_ble_eq_true rfl) (Nat.le_of_ble_eq_true rfl) rfl rfl hG c1 q1 q2 ?_
  refine lw_alu C0 hK (len := 1) rfl rfl ?_
  refine lw_aload C0 hK (j := 2) (a := 69) rfl hl.2.2.1 ?_
  refine lw_sc C0 hK (z := 1) 1 rfl rfl rfl rfl rfl rfl hl (by omega) hL ?_
  refine lw_sc C0 hK (z := 2) 2 rfl rfl rfl rfl rfl rfl hl (by omega) hL ?_
  refine lw_invC C0 hK (mi := mi_M_bag) (n := 2) (a := 69) (N := mm_M_bag) rfl rfl rfl rfl rfl (Nat.le_of_ble_eq_true rfl) (Nat.le_of_ble_eq_true rfl) rfl rfl hG1 c2 q1 q2 ?_
  refine lw_alu C0 hK (len := 1) rfl rfl ?_
  refine lw_goto C0 hK (off := 799) rfl ?_
  exact h hp2 hG2 hR2
theorem lk_18 (C0 : lw_At p s m meth c b L xs) (hK : va_K D nm_cl (px_tys nm_T dA) s) (hl : nm_lvk lv i) (hi : i + 6 ≤ L) (hL : L ≤ 3072) (hG : ab_h nm_GH hp) (hR : nm_R hp) (q1 : nc ≤ nm_rc) (q2 : ns ≤ nm_rs) (h : ∀ hp' : px_H, ab_h nm_GH hp' → nm_R hp' → nm_G p l e s m below meth c b D dA (1686, lv, [], hp', nc, ns)) : nm_G p l e s m below meth c b D dA (890, lv, [], hp, nc, ns) := by
  obtain ⟨v0, v1, hp1, hp2, c1, hG1, c2, hG2, hv, hR2⟩ := xp_sat (a0 := xs (i + 1)) hG hR
  refine lw_aload C0 hK (j := 1) (a := 0) rfl hl.2.1 ?_
  refine lw_sc C0 hK (z := 1) 1 rfl rfl rfl rfl rfl rfl hl (by omega) hL ?_
  refine lw_invC C0 hK (mi := mi_X_sat) (n := 1) (a := 0) (N := mm_X_sat) rfl rfl rfl rfl rfl (Nat.le_of_ble_eq_true rfl) (Nat.le_of_ble_eq_true rfl) rfl rfl hG c1 q1 q2 ?_
  refine lw_alu C0 hK (len := 1) rfl rfl ?_
  refine lw_aload C0 hK (j := 2) (a := 69) rfl hl.2.2.1 ?_
  refine lw_sc C0 hK (z := 1) 1 rfl rfl rfl rfl rfl rfl hl (by omega) hL ?_
  refine lw_invC C0 hK (mi := mi_M_sat) (n := 1) (a := 69) (N := mm_M_sat) rfl rfl rfl rfl rfl (Nat.le_of_ble_eq_true rfl) (Nat.le_of_ble_eq_true rfl) rfl rfl hG1 c2 q1 q2 ?_
  refine lw_alu C0 hK (len := 1) rfl rfl ?_
  refine lw_goto C0 hK (off := 774) rfl ?_
  exact h hp2 hG2 hR2
theorem lk_19 (C0 : lw_At p s m meth c b L xs) (hK : va_K D nm_cl (px_tys nm_T dA) s) (hl : nm_lvk lv i) (hi : i + 6 ≤ L) (hL : L ≤ 3072) (hG : ab_h nm_GH hp) (hR : nm_R hp) (q1 : nc ≤ nm_rc) (q2 : ns ≤ nm_rs) (h : ∀ hp' : px_H, ab_h nm_GH hp' → nm_R hp' → nm_G p l e s m below meth c b D dA (1686, lv, [], hp', nc, ns)) : nm_G p l e s m below meth c b D dA (915, lv, [], hp, nc, ns) := by
  refine lw_aload C0 hK (j := 1) (a := 0) rfl hl.2.1 ?_
  refine lw_sc C0 hK (z := 1) 1 rfl rfl rfl rfl rfl rfl hl (by omega) hL ?_
  refine lw_sc C0 hK (z := 2) 2 rfl rfl rfl rfl rfl rfl hl (by omega) hL ?_
  refine lw_inv C0 hK kp_X_chance_0 rfl (n := 2) (a := 0) (N := mm_X_chance) rfl rfl rfl rfl rfl (Nat.le_of_ble_eq_true rfl) (Nat.le_of_ble_eq_true rfl) rfl rfl hG ⟨⟨rfl, List.mem_cons_self⟩, ⟨rfl, ab_i32 _⟩, ⟨rfl, ab_i32 _⟩, trivial⟩ q1 q2 (fun r0 hp1 o0 ho0 hG1 hr0 hf0 hw0 => ?_)
  have hR1 : nm_R hp1 := nm_R_fr hG hG1 hw0 (show nm_Rf kc_X_chance_0.2.2.2.2.1 kc_X_chance_0.2.2.2.2.2 = true from by decide +kernel) hR
  obtain ⟨v0, rfl⟩ := nm_rI rfl ho0 hr0
  refine lw_alu C0 hK (len := 1) rfl rfl ?_
  refine lw_aload C0 hK (j := 2) (a := 69) rfl hl.2.2.1 ?_
  refine lw_sc C0 hK (z := 1) 1 rfl rfl rfl rfl rfl rfl hl (by omega) hL ?_
  refine lw_sc C0 hK (z := 2) 2 rfl rfl rfl rfl rfl rfl hl (by omega) hL ?_
  refine lw_inv C0 hK kp_M_chance_0 rfl (n := 2) (a := 69) (N := mm_M_chance) rfl rfl rfl rfl rfl (Nat.le_of_ble_eq_true rfl) (Nat.le_of_ble_eq_true rfl) rfl rfl hG1 ⟨⟨rfl, List.mem_cons_self⟩, ⟨rfl, ab_i32 _⟩, ⟨rfl, ab_i32 _⟩, trivial⟩ q1 q2 (fun r1 hp2 o1 ho1 hG2 hr1 hf1 hw1 => ?_)
  have hR2 : nm_R hp2 := nm_R_fr hG1 hG2 hw1 (show nm_Rf kc_M_chance_0.2.2.2.2.1 kc_M_chance_0.2.2.2.2.2 = true from by decide +kernel) hR1
  obtain ⟨v1, rfl⟩ := nm_rI rfl ho1 hr1
  refine lw_alu C0 hK (len := 1) rfl rfl ?_
  refine lw_goto C0 hK (off := 737) rfl ?_
  exact h hp2 hG2 hR2
theorem lk_20 (C0 : lw_At p s m meth c b L xs) (hK : va_K D nm_cl (px_tys nm_T dA) s) (hl : nm_lvk lv i) (hi : i + 6 ≤ L) (hL : L ≤ 3072) (hG : ab_h nm_GH hp) (hR : nm_R hp) (q1 : nc ≤ nm_rc) (q2 : ns ≤ nm_rs) (h : ∀ hp' : px_H, ab_h nm_GH hp' → nm_R hp' → nm_G p l e s m below meth c b D dA (1686, lv, [], hp', nc, ns)) : nm_G p l e s m below meth c b D dA (952, lv, [], hp, nc, ns) := by
  refine lw_aload C0 hK (j := 1) (a := 0) rfl hl.2.1 ?_
  refine lw_sc C0 hK (z := 1) 1 rfl rfl rfl rfl rfl rfl hl (by omega) hL ?_
  refine lw_inv C0 hK kp_X_each_0 rfl (n := 1) (a := 0) (N := mm_X_each) rfl rfl rfl rfl rfl (Nat.le_of_ble_eq_true rfl) (Nat.le_of_ble_eq_true rfl) rfl rfl hG ⟨⟨rfl, List.mem_cons_self⟩, ⟨rfl, ab_i32 _⟩, trivial⟩ q1 q2 (fun r0 hp1 o0 ho0 hG1 hr0 hf0 hw0 => ?_)
  have hR1 : nm_R hp1 := nm_R_fr hG hG1 hw0 (show nm_Rf kc_X_each_0.2.2.2.2.1 kc_X_each_0.2.2.2.2.2 = true from by decide +kernel) hR
  obtain ⟨v0, rfl⟩ := nm_rI rfl ho0 hr0
  refine lw_alu C0 hK (len := 1) rfl rfl ?_
  refine lw_aload C0 hK (j := 2) (a := 69) rfl hl.2.2.1 ?_
  refine lw_sc C0 hK (z := 1) 1 rfl rfl rfl rfl rfl rfl hl (by omega) hL ?_
  refine lw_inv C0 hK kp_M_each_0 rfl (n := 1) (a := 69) (N := mm_M_each) rfl rfl rfl rfl rfl (Nat.le_of_ble_eq_true rfl) (Nat.le_of_ble_eq_true rfl) rfl rfl hG1 ⟨⟨rfl, List.mem_cons_self⟩, ⟨rfl, ab_i32 _⟩, trivial⟩ q1 q2 (fun r1 hp2 o1 ho1 hG2 hr1 hf1 hw1 => ?_)
  have hR2 : nm_R hp2 := nm_R_fr hG1 hG2 hw1 (show nm_Rf kc_M_each_0.2.2.2.2.1 kc_M_each_0.2.2.2.2.2 = true from by decide +kernel) hR1
  obtain ⟨v1, rfl⟩ := nm_rI rfl ho1 hr1
  refine lw_alu C0 hK (len := 1) rfl rfl ?_
  refine lw_goto C0 hK (off := 712) rfl ?_
  exact h hp2 hG2 hR2
theorem lk_21 (C0 : lw_At p s m meth c b L xs) (hK : va_K D nm_cl (px_tys nm_T dA) s) (hl : nm_lvk lv i) (hi : i + 6 ≤ L) (hL : L ≤ 3072) (hG : ab_h nm_GH hp) (hR : nm_R hp) (q1 : nc ≤ nm_rc) (q2 : ns ≤ nm_rs) (h : ∀ hp' : px_H, ab_h nm_GH hp' → nm_R hp' → nm_G p l e s m below meth c b D dA (1686, lv, [], hp', nc, ns)) : nm_G p l e s m below meth c b D dA (977, lv, [], hp, nc, ns) := by
  refine lw_aload C0 hK (j := 1) (a := 0) rfl hl.2.1 ?_
  refine lw_sc C0 hK (z := 1) 1 rfl rfl rfl rfl rfl rfl hl (by omega) hL ?_
  refine lw_inv C0 hK kp_X_ever_0 rfl (n := 1) (a := 0) (N := mm_X_ever) rfl rfl rfl rfl rfl (Nat.le_of_ble_eq_true rfl) (Nat.le_of_ble_eq_true rfl) rfl rfl hG ⟨⟨rfl, List.mem_cons_self⟩, ⟨rfl, ab_i32 _⟩, trivial⟩ q1 q2 (fun r0 hp1 o0 ho0 hG1 hr0 hf0 hw0 => ?_)
  have hR1 : nm_R hp1 := nm_R_fr hG hG1 hw0 (show nm_Rf kc_X_ever_0.2.2.2.2.1 kc_X_ever_0.2.2.2.2.2 = true from by decide +kernel) hR
  obtain ⟨v0, rfl⟩ := nm_rI rfl ho0 hr0
  refine lw_alu C0 hK (len := 1) rfl rfl ?_
  refine lw_aload C0 hK (j := 2) (a := 69) rfl hl.2.2.1 ?_
  refine lw_sc C0 hK (z := 1) 1 rfl rfl rfl rfl rfl rfl hl (by omega) hL ?_
  refine lw_inv C0 hK kp_M_ever_0 rfl (n := 1) (a := 69) (N := mm_M_ever) rfl rfl rfl rfl rfl (Nat.le_of_ble_eq_true rfl) (Nat.le_of_ble_eq_true rfl) rfl rfl hG1 ⟨⟨rfl, List.mem_cons_self⟩, ⟨rfl, ab_i32 _⟩, trivial⟩ q1 q2 (fun r1 hp2 o1 ho1 hG2 hr1 hf1 hw1 => ?_)
  have hR2 : nm_R hp2 := nm_R_fr hG1 hG2 hw1 (show nm_Rf kc_M_ever_0.2.2.2.2.1 kc_M_ever_0.2.2.2.2.2 = true from by decide +kernel) hR1
  obtain ⟨v1, rfl⟩ := nm_rI rfl ho1 hr1
  refine lw_alu C0 hK (len := 1) rfl rfl ?_
  refine lw_goto C0 hK (off := 687) rfl ?_
  exact h hp2 hG2 hR2
end nm_lk
end mg_1

section mg_2
/-! the law's cases, from 22 -/
section nm_lk
variable {p : Program} {l : Launch} {e : Env} {s : State} {m : MethodId} {below : List Frame} {meth : Method} {c : Code} {b L : Nat} {xs : Nat → Int32} {D : va_G} {dA : Nat → ClassId}
variable {i nc ns : Nat} {lv : List (Nat × Value)} {hp : px_H}
set_option maxRecDepth 100000
theorem lk_22 (C0 : lw_At p s m meth c b L xs) (hK : va_K D nm_cl (px_tys nm_T dA) s) (hl : nm_lvk lv i) (hi : i + 6 ≤ L) (hL : L ≤ 3072) (hG : ab_h nm_GH hp) (hR : nm_R hp) (q1 : nc ≤ nm_rc) (q2 : ns ≤ nm_rs) (h : ∀ hp' : px_H, ab_h nm_GH hp' → nm_R hp' → nm_G p l e s m below meth c b D dA (1686, lv, [], hp', nc, ns)) : nm_G p l e s m below meth c b D dA (1002, lv, [], hp, nc, ns) := by
  refine lw_aload C0 hK (j := 1) (a := 0) rfl hl.2.1 ?_
  refine lw_sc C0 hK (z := 1) 1 rfl rfl rfl rfl rfl rfl hl (by omega) hL ?_
  refine lw_inv C0 hK kp_X_empty_0 rfl (n := 1) (a := 0) (N := mm_X_empty) rfl rfl rfl rfl rfl (Nat.le_of_ble_eq_true rfl) (Nat.le_of_ble_eq_true rfl) rfl rfl hG ⟨⟨rfl, List.mem_cons_self⟩, ⟨rfl, ab_i32 _⟩, trivial⟩ q1 q2 (fun r0 hp1 o0 ho0 hG1 hr0 hf0 hw0 => ?_)
  have hR1 : nm_R hp1 := nm_R_fr hG hG1 hw0 (show nm_Rf kc_X_empty_0.2.2.2.2.1 kc_X_empty_0.2.2.2.2.2 = true from by decide +kernel) hR
  obtain ⟨v0, rfl⟩ := nm_rI rfl ho0 hr0
  refine lw_alu C0 hK (len := 1) rfl rfl ?_
  refine lw_aload C0 hK (j := 2) (a := 69) rfl hl.2.2.1 ?_
  refine lw_sc C0 hK (z := 1) 1 rfl rfl rfl rfl rfl rfl hl (by omega) hL ?_
  refine lw_inv C0 hK kp_M_empty_0 rfl (n := 1) (a := 69) (N := mm_M_empty) rfl rfl rfl rfl rfl (Nat.le_of_ble_eq_true rfl) (Nat.le_of_ble_eq_true rfl) rfl rfl hG1 ⟨⟨rfl, List.mem_cons_self⟩, ⟨rfl, ab_i32 _⟩, trivial⟩ q1 q2 (fun r1 hp2 o1 ho1 hG2 hr1 hf1 hw1 => ?_)
  have hR2 : nm_R hp2 := nm_R_fr hG1 hG2 hw1 (show nm_Rf kc_M_empty_0.2.2.2.2.1 kc_M_empty_0.2.2.2.2.2 = true from by decide +kernel) hR1
  obtain ⟨v1, rfl⟩ := nm_rI rfl ho1 hr1
  refine lw_alu C0 hK (len := 1) rfl rfl ?_
  refine lw_goto C0 hK (off := 662) rfl ?_
  exact h hp2 hG2 hR2
theorem lk_23 (C0 : lw_At p s m meth c b L xs) (hK : va_K D nm_cl (px_tys nm_T dA) s) (hl : nm_lvk lv i) (hi : i + 6 ≤ L) (hL : L ≤ 3072) (hG : ab_h nm_GH hp) (hR : nm_R hp) (q1 : nc ≤ nm_rc) (q2 : ns ≤ nm_rs) (h : ∀ hp' : px_H, ab_h nm_GH hp' → nm_R hp' → nm_G p l e s m below meth c b D dA (1686, lv, [], hp', nc, ns)) : nm_G p l e s m below meth c b D dA (1027, lv, [], hp, nc, ns) := by
  refine lw_aload C0 hK (j := 1) (a := 0) rfl hl.2.1 ?_
  refine lw_sc C0 hK (z := 1) 1 rfl rfl rfl rfl rfl rfl hl (by omega) hL ?_
  refine lw_inv C0 hK kp_X_vain_0 rfl (n := 1) (a := 0) (N := mm_X_vain) rfl rfl rfl rfl rfl (Nat.le_of_ble_eq_true rfl) (Nat.le_of_ble_eq_true rfl) rfl rfl hG ⟨⟨rfl, List.mem_cons_self⟩, ⟨rfl, ab_i32 _⟩, trivial⟩ q1 q2 (fun r0 hp1 o0 ho0 hG1 hr0 hf0 hw0 => ?_)
  have hR1 : nm_R hp1 := nm_R_fr hG hG1 hw0 (show nm_Rf kc_X_vain_0.2.2.2.2.1 kc_X_vain_0.2.2.2.2.2 = true from by decide +kernel) hR
  obtain ⟨v0, rfl⟩ := nm_rI rfl ho0 hr0
  refine lw_alu C0 hK (len := 1) rfl rfl ?_
  refine lw_aload C0 hK (j := 2) (a := 69) rfl hl.2.2.1 ?_
  refine lw_sc C0 hK (z := 1) 1 rfl rfl rfl rfl rfl rfl hl (by omega) hL ?_
  refine lw_inv C0 hK kp_M_vain_0 rfl (n := 1) (a := 69) (N := mm_M_vain) rfl rfl rfl rfl rfl (Nat.le_of_ble_eq_true rfl) (Nat.le_of_ble_eq_true rfl) rfl rfl hG1 ⟨⟨rfl, List.mem_cons_self⟩, ⟨rfl, ab_i32 _⟩, trivial⟩ q1 q2 (fun r1 hp2 o1 ho1 hG2 hr1 hf1 hw1 => ?_)
  have hR2 : nm_R hp2 := nm_R_fr hG1 hG2 hw1 (show nm_Rf kc_M_vain_0.2.2.2.2.1 kc_M_vain_0.2.2.2.2.2 = true from by decide +kernel) hR1
  obtain ⟨v1, rfl⟩ := nm_rI rfl ho1 hr1
  refine lw_alu C0 hK (len := 1) rfl rfl ?_
  refine lw_goto C0 hK (off := 637) rfl ?_
  exact h hp2 hG2 hR2
theorem lk_24 (C0 : lw_At p s m meth c b L xs) (hK : va_K D nm_cl (px_tys nm_T dA) s) (hl : nm_lvk lv i) (hi : i + 6 ≤ L) (hL : L ≤ 3072) (hG : ab_h nm_GH hp) (hR : nm_R hp) (q1 : nc ≤ nm_rc) (q2 : ns ≤ nm_rs) (h : ∀ hp' : px_H, ab_h nm_GH hp' → nm_R hp' → nm_G p l e s m below meth c b D dA (1686, lv, [], hp', nc, ns)) : nm_G p l e s m below meth c b D dA (1052, lv, [], hp, nc, ns) := by
  refine lw_aload C0 hK (j := 1) (a := 0) rfl hl.2.1 ?_
  refine lw_sc C0 hK (z := 1) 1 rfl rfl rfl rfl rfl rfl hl (by omega) hL ?_
  refine lw_sc C0 hK (z := 2) 2 rfl rfl rfl rfl rfl rfl hl (by omega) hL ?_
  refine lw_inv C0 hK kp_X_house_0 rfl (n := 2) (a := 0) (N := mm_X_house) rfl rfl rfl rfl rfl (Nat.le_of_ble_eq_true rfl) (Nat.le_of_ble_eq_true rfl) rfl rfl hG ⟨⟨rfl, List.mem_cons_self⟩, ⟨rfl, ab_i32 _⟩, ⟨rfl, ab_i32 _⟩, trivial⟩ q1 q2 (fun r0 hp1 o0 ho0 hG1 hr0 hf0 hw0 => ?_)
  have hR1 : nm_R hp1 := nm_R_fr hG hG1 hw0 (show nm_Rf kc_X_house_0.2.2.2.2.1 kc_X_house_0.2.2.2.2.2 = true from by decide +kernel) hR
  obtain ⟨v0, rfl⟩ := nm_rI rfl ho0 hr0
  refine lw_alu C0 hK (len := 1) rfl rfl ?_
  refine lw_aload C0 hK (j := 2) (a := 69) rfl hl.2.2.1 ?_
  refine lw_sc C0 hK (z := 1) 1 rfl rfl rfl rfl rfl rfl hl (by omega) hL ?_
  refine lw_sc C0 hK (z := 2) 2 rfl rfl rfl rfl rfl rfl hl (by omega) hL ?_
  refine lw_inv C0 hK kp_M_house_0 rfl (n := 2) (a := 69) (N := mm_M_house) rfl rfl rfl rfl rfl (Nat.le_of_ble_eq_true rfl) (Nat.le_of_ble_eq_true rfl) rfl rfl hG1 ⟨⟨rfl, List.mem_cons_self⟩, ⟨rfl, ab_i32 _⟩, ⟨rfl, ab_i32 _⟩, trivial⟩ q1 q2 (fun r1 hp2 o1 ho1 hG2 hr1 hf1 hw1 => ?_)
  have hR2 : nm_R hp2 := nm_R_fr hG1 hG2 hw1 (show nm_Rf kc_M_house_0.2.2.2.2.1 kc_M_house_0.2.2.2.2.2 = true from by decide +kernel) hR1
  obtain ⟨v1, rfl⟩ := nm_rI rfl ho1 hr1
  refine lw_alu C0 hK (len := 1) rfl rfl ?_
  refine lw_goto C0 hK (off := 600) rfl ?_
  exact h hp2 hG2 hR2
theorem lk_25 (C0 : lw_At p s m meth c b L xs) (hK : va_K D nm_cl (px_tys nm_T dA) s) (hl : nm_lvk lv i) (hi : i + 6 ≤ L) (hL : L ≤ 3072) (hG : ab_h nm_GH hp) (hR : nm_R hp) (q1 : nc ≤ nm_rc) (q2 : ns ≤ nm_rs) (h : ∀ hp' : px_H, ab_h nm_GH hp' → nm_R hp' → nm_G p l e s m below meth c b D dA (1686, lv, [], hp', nc, ns)) : nm_G p l e s m below meth c b D dA (1089, lv, [], hp, nc, ns) := by
  refine lw_aload C0 hK (j := 1) (a := 0) rfl hl.2.1 ?_
  refine lw_sc C0 hK (z := 1) 1 rfl rfl rfl rfl rfl rfl hl (by omega) hL ?_
  refine lw_inv C0 hK kp_X_ways_0 rfl (n := 1) (a := 0) (N := mm_X_ways) rfl rfl rfl rfl rfl (Nat.le_of_ble_eq_true rfl) (Nat.le_of_ble_eq_true rfl) rfl rfl hG ⟨⟨rfl, List.mem_cons_self⟩, ⟨rfl, ab_i32 _⟩, trivial⟩ q1 q2 (fun r0 hp1 o0 ho0 hG1 hr0 hf0 hw0 => ?_)
  have hR1 : nm_R hp1 := nm_R_fr hG hG1 hw0 (show nm_Rf kc_X_ways_0.2.2.2.2.1 kc_X_ways_0.2.2.2.2.2 = true from by decide +kernel) hR
  obtain ⟨v0, rfl⟩ := nm_rI rfl ho0 hr0
  refine lw_alu C0 hK (len := 1) rfl rfl ?_
  refine lw_aload C0 hK (j := 2) (a := 69) rfl hl.2.2.1 ?_
  refine lw_sc C0 hK (z := 1) 1 rfl rfl rfl rfl rfl rfl hl (by omega) hL ?_
  refine lw_inv C0 hK kp_M_ways_0 rfl (n := 1) (a := 69) (N := mm_M_ways) rfl rfl rfl rfl rfl (Nat.le_of_ble_eq_true rfl) (Nat.le_of_ble_eq_true rfl) rfl rfl hG1 ⟨⟨rfl, List.mem_cons_self⟩, ⟨rfl, ab_i32 _⟩, trivial⟩ q1 q2 (fun r1 hp2 o1 ho1 hG2 hr1 hf1 hw1 => ?_)
  have hR2 : nm_R hp2 := nm_R_fr hG1 hG2 hw1 (show nm_Rf kc_M_ways_0.2.2.2.2.1 kc_M_ways_0.2.2.2.2.2 = true from by decide +kernel) hR1
  obtain ⟨v1, rfl⟩ := nm_rI rfl ho1 hr1
  refine lw_alu C0 hK (len := 1) rfl rfl ?_
  refine lw_goto C0 hK (off := 575) rfl ?_
  exact h hp2 hG2 hR2
theorem lk_26 (C0 : lw_At p s m meth c b L xs) (hK : va_K D nm_cl (px_tys nm_T dA) s) (hl : nm_lvk lv i) (hi : i + 6 ≤ L) (hL : L ≤ 3072) (hG : ab_h nm_GH hp) (hR : nm_R hp) (q1 : nc ≤ nm_rc) (q2 : ns ≤ nm_rs) (h : ∀ hp' : px_H, ab_h nm_GH hp' → nm_R hp' → nm_G p l e s m below meth c b D dA (1686, lv, [], hp', nc, ns)) : nm_G p l e s m below meth c b D dA (1114, lv, [], hp, nc, ns) := by
  refine lw_aload C0 hK (j := 1) (a := 0) rfl hl.2.1 ?_
  refine lw_sc C0 hK (z := 1) 1 rfl rfl rfl rfl rfl rfl hl (by omega) hL ?_
  refine lw_sc C0 hK (z := 2) 2 rfl rfl rfl rfl rfl rfl hl (by omega) hL ?_
  refine lw_inv C0 hK kp_X_sure_0 rfl (n := 2) (a := 0) (N := mm_X_sure) rfl rfl rfl rfl rfl (Nat.le_of_ble_eq_true rfl) (Nat.le_of_ble_eq_true rfl) rfl rfl hG ⟨⟨rfl, List.mem_cons_self⟩, ⟨rfl, ab_i32 _⟩, ⟨rfl, ab_i32 _⟩, trivial⟩ q1 q2 (fun r0 hp1 o0 ho0 hG1 hr0 hf0 hw0 => ?_)
  have hR1 : nm_R hp1 := nm_R_fr hG hG1 hw0 (show nm_Rf kc_X_sure_0.2.2.2.2.1 kc_X_sure_0.2.2.2.2.2 = true from by decide +kernel) hR
  obtain ⟨v0, rfl⟩ := nm_rI rfl ho0 hr0
  refine lw_alu C0 hK (len := 1) rfl rfl ?_
  refine lw_aload C0 hK (j := 2) (a := 69) rfl hl.2.2.1 ?_
  refine lw_sc C0 hK (z := 1) 1 rfl rfl rfl rfl rfl rfl hl (by omega) hL ?_
  refine lw_sc C0 hK (z := 2) 2 rfl rfl rfl rfl rfl rfl hl (by omega) hL ?_
  refine lw_inv C0 hK kp_M_sure_0 rfl (n := 2) (a := 69) (N := mm_M_sure) rfl rfl rfl rfl rfl (Nat.le_of_ble_eq_true rfl) (Nat.le_of_ble_eq_true rfl) rfl rfl hG1 ⟨⟨rfl, List.mem_cons_self⟩, ⟨rfl, ab_i32 _⟩, ⟨rfl, ab_i32 _⟩, trivial⟩ q1 q2 (fun r1 hp2 o1 ho1 hG2 hr1 hf1 hw1 => ?_)
  have hR2 : nm_R hp2 := nm_R_fr hG1 hG2 hw1 (show nm_Rf kc_M_sure_0.2.2.2.2.1 kc_M_sure_0.2.2.2.2.2 = true from by decide +kernel) hR1
  obtain ⟨v1, rfl⟩ := nm_rI rfl ho1 hr1
  refine lw_alu C0 hK (len := 1) rfl rfl ?_
  refine lw_goto C0 hK (off := 538) rfl ?_
  exact h hp2 hG2 hR2
theorem lk_27 (C0 : lw_At p s m meth c b L xs) (hK : va_K D nm_cl (px_tys nm_T dA) s) (hl : nm_lvk lv i) (hi : i + 6 ≤ L) (hL : L ≤ 3072) (hG : ab_h nm_GH hp) (hR : nm_R hp) (q1 : nc ≤ nm_rc) (q2 : ns ≤ nm_rs) (h : ∀ hp' : px_H, ab_h nm_GH hp' → nm_R hp' → nm_G p l e s m below meth c b D dA (1686, lv, [], hp', nc, ns)) : nm_G p l e s m below meth c b D dA (1151, lv, [], hp, nc, ns) := by
  refine lw_aload C0 hK (j := 1) (a := 0) rfl hl.2.1 ?_
  refine lw_sc C0 hK (z := 1) 1 rfl rfl rfl rfl rfl rfl hl (by omega) hL ?_
  refine lw_sc C0 hK (z := 2) 2 rfl rfl rfl rfl rfl rfl hl (by omega) hL ?_
  refine lw_inv C0 hK kp_X_sit_0 rfl (n := 2) (a := 0) (N := mm_X_sit) rfl rfl rfl rfl rfl (Nat.le_of_ble_eq_true rfl) (Nat.le_of_ble_eq_true rfl) rfl rfl hG ⟨⟨rfl, List.mem_cons_self⟩, ⟨rfl, ab_i32 _⟩, ⟨rfl, ab_i32 _⟩, trivial⟩ q1 q2 (fun r0 hp1 o0 ho0 hG1 hr0 hf0 hw0 => ?_)
  have hR1 : nm_R hp1 := nm_R_fr hG hG1 hw0 (show nm_Rf kc_X_sit_0.2.2.2.2.1 kc_X_sit_0.2.2.2.2.2 = true from by decide +kernel) hR
  obtain ⟨v0, rfl⟩ := nm_rI rfl ho0 hr0
  refine lw_alu C0 hK (len := 1) rfl rfl ?_
  refine lw_aload C0 hK (j := 2) (a := 69) rfl hl.2.2.1 ?_
  refine lw_sc C0 hK (z := 1) 1 rfl rfl rfl rfl rfl rfl hl (by omega) hL ?_
  refine lw_sc C0 hK (z := 2) 2 rfl rfl rfl rfl rfl rfl hl (by omega) hL ?_
  refine lw_inv C0 hK kp_M_sit_0 rfl (n := 2) (a := 69) (N := mm_M_sit) rfl rfl rfl rfl rfl (Nat.le_of_ble_eq_true rfl) (Nat.le_of_ble_eq_true rfl) rfl rfl hG1 ⟨⟨rfl, List.mem_cons_self⟩, ⟨rfl, ab_i32 _⟩, ⟨rfl, ab_i32 _⟩, trivial⟩ q1 q2 (fun r1 hp2 o1 ho1 hG2 hr1 hf1 hw1 => ?_)
  have hR2 : nm_R hp2 := nm_R_fr hG1 hG2 hw1 (show nm_Rf kc_M_sit_0.2.2.2.2.1 kc_M_sit_0.2.2.2.2.2 = true from by decide +kernel) hR1
  obtain ⟨v1, rfl⟩ := nm_rI rfl ho1 hr1
  refine lw_alu C0 hK (len := 1) rfl rfl ?_
  refine lw_goto C0 hK (off := 501) rfl ?_
  exact h hp2 hG2 hR2
theorem lk_28 (C0 : lw_At p s m meth c b L xs) (hK : va_K D nm_cl (px_tys nm_T dA) s) (hl : nm_lvk lv i) (hi : i + 6 ≤ L) (hL : L ≤ 3072) (hG : ab_h nm_GH hp) (hR : nm_R hp) (q1 : nc ≤ nm_rc) (q2 : ns ≤ nm_rs) (h : ∀ hp' : px_H, ab_h nm_GH hp' → nm_R hp' → nm_G p l e s m below meth c b D dA (1686, lv, [], hp', nc, ns)) : nm_G p l e s m below meth c b D dA (1188, lv, [], hp, nc, ns) := by
  refine lw_aload C0 hK (j := 1) (a := 0) rfl hl.2.1 ?_
  refine lw_inv C0 hK kp_X_known_0 rfl (n := 0) (a := 0) (N := mm_X_known) rfl rfl rfl rfl rfl (Nat.le_of_ble_eq_true rfl) (Nat.le_of_ble_eq_true rfl) rfl rfl hG ⟨⟨rfl, List.mem_cons_self⟩, trivial⟩ q1 q2 (fun r0 hp1 o0 ho0 hG1 hr0 hf0 hw0 => ?_)
  have hR1 : nm_R hp1 := nm_R_fr hG hG1 hw0 (show nm_Rf kc_X_known_0.2.2.2.2.1 kc_X_known_0.2.2.2.2.2 = true from by decide +kernel) hR
  obtain ⟨v0, rfl⟩ := nm_rI rfl ho0 hr0
  refine lw_alu C0 hK (len := 1) rfl rfl ?_
  refine lw_aload C0 hK (j := 2) (a := 69) rfl hl.2.2.1 ?_
  refine lw_inv C0 hK kp_M_known_0 rfl (n := 0) (a := 69) (N := mm_M_known) rfl rfl rfl rfl rfl (Nat.le_of_ble_eq_true rfl) (Nat.le_of_ble_eq_true rfl) rfl rfl hG1 ⟨⟨rfl, List.mem_cons_self⟩, trivial⟩ q1 q2 (fun r1 hp2 o1 ho1 hG2 hr1 hf1 hw1 => ?_)
  have hR2 : nm_R hp2 := nm_R_fr hG1 hG2 hw1 (show nm_Rf kc_M_known_0.2.2.2.2.1 kc_M_known_0.2.2.2.2.2 = true from by decide +kernel) hR1
  obtain ⟨v1, rfl⟩ := nm_rI rfl ho1 hr1
  refine lw_alu C0 hK (len := 1) rfl rfl ?_
  refine lw_goto C0 hK (off := 488) rfl ?_
  exact h hp2 hG2 hR2
theorem lk_29 (C0 : lw_At p s m meth c b L xs) (hK : va_K D nm_cl (px_tys nm_T dA) s) (hl : nm_lvk lv i) (hi : i + 6 ≤ L) (hL : L ≤ 3072) (hG : ab_h nm_GH hp) (hR : nm_R hp) (q1 : nc ≤ nm_rc) (q2 : ns ≤ nm_rs) (h : ∀ hp' : px_H, ab_h nm_GH hp' → nm_R hp' → nm_G p l e s m below meth c b D dA (1686, lv, [], hp', nc, ns)) : nm_G p l e s m below meth c b D dA (1201, lv, [], hp, nc, ns) := by
  refine lw_aload C0 hK (j := 1) (a := 0) rfl hl.2.1 ?_
  refine lw_sc C0 hK (z := 1) 1 rfl rfl rfl rfl rfl rfl hl (by omega) hL ?_
  refine lw_sc C0 hK (z := 2) 2 rfl rfl rfl rfl rfl rfl hl (by omega) hL ?_
  refine lw_sc C0 hK (z := 3) 3 rfl rfl rfl rfl rfl rfl hl (by omega) hL ?_
  refine lw_sc C0 hK (z := 4) 4 rfl rfl rfl rfl rfl rfl hl (by omega) hL ?_
  refine lw_sc C0 hK (z := 5) 5 rfl rfl rfl rfl rfl rfl hl (by omega) hL ?_
  refine lw_inv C0 hK kp_X_best_0 rfl (n := 5) (a := 0) (N := mm_X_best) rfl rfl rfl rfl rfl (Nat.le_of_ble_eq_true rfl) (Nat.le_of_ble_eq_true rfl) rfl rfl hG ⟨⟨rfl, List.mem_cons_self⟩, ⟨rfl, ab_i32 _⟩, ⟨rfl, ab_i32 _⟩, ⟨rfl, ab_i32 _⟩, ⟨rfl, ab_i32 _⟩, ⟨rfl, ab_i32 _⟩, trivial⟩ q1 q2 (fun r0 hp1 o0 ho0 hG1 hr0 hf0 hw0 => ?_)
  have hR1 : nm_R hp1 := nm_R_fr hG hG1 hw0 (show nm_Rf kc_X_best_0.2.2.2.2.1 kc_X_best_0.2.2.2.2.2 = true from by decide +kernel) hR
  obtain ⟨v0, rfl⟩ := nm_rI rfl ho0 hr0
  refine lw_alu C0 hK (len := 1) rfl rfl ?_
  refine lw_aload C0 hK (j := 2) (a := 69) rfl hl.2.2.1 ?_
  refine lw_sc C0 hK (z := 1) 1 rfl rfl rfl rfl rfl rfl hl (by omega) hL ?_
  refine lw_sc C0 hK (z := 2) 2 rfl rfl rfl rfl rfl rfl hl (by omega) hL ?_
  refine lw_sc C0 hK (z := 3) 3 rfl rfl rfl rfl rfl rfl hl (by omega) hL ?_
  refine lw_sc C0 hK (z := 4) 4 rfl rfl rfl rfl rfl rfl hl (by omega) hL ?_
  refine lw_sc C0 hK (z := 5) 5 rfl rfl rfl rfl rfl rfl hl (by omega) hL ?_
  refine lw_inv C0 hK kp_M_best_0 rfl (n := 5) (a := 69) (N := mm_M_best) rfl rfl rfl rfl rfl (Nat.le_of_ble_eq_true rfl) (Nat.le_of_ble_eq_true rfl) rfl rfl hG1 ⟨⟨rfl, List.mem_cons_self⟩, ⟨rfl, ab_i32 _⟩, ⟨rfl, ab_i32 _⟩, ⟨rfl, ab_i32 _⟩, ⟨rfl, ab_i32 _⟩, ⟨rfl, ab_i32 _⟩, trivial⟩ q1 q2 (fun r1 hp2 o1 ho1 hG2 hr1 hf1 hw1 => ?_)
  have hR2 : nm_R hp2 := nm_R_fr hG1 hG2 hw1 (show nm_Rf kc_M_best_0.2.2.2.2.1 kc_M_best_0.2.2.2.2.2 = true from by decide +kernel) hR1
  obtain ⟨v1, rfl⟩ := nm_rI rfl ho1 hr1
  refine lw_alu C0 hK (len := 1) rfl rfl ?_
  refine lw_goto C0 hK (off := 415) rfl ?_
  exact h hp2 hG2 hR2
theorem lk_30 (C0 : lw_At p s m meth c b L xs) (hK : va_K D nm_cl (px_tys nm_T dA) s) (hl : nm_lvk lv i) (hi : i + 6 ≤ L) (hL : L ≤ 3072) (hG : ab_h nm_GH hp) (hR : nm_R hp) (q1 : nc ≤ nm_rc) (q2 : ns ≤ nm_rs) (h : ∀ hp' : px_H, ab_h nm_GH hp' → nm_R hp' → nm_G p l e s m below meth c b D dA (1686, lv, [], hp', nc, ns)) : nm_G p l e s m below meth c b D dA (1274, lv, [], hp, nc, ns) := by
  refine lw_aload C0 hK (j := 1) (a := 0) rfl hl.2.1 ?_
  refine lw_sc C0 hK (z := 1) 1 rfl rfl rfl rfl rfl rfl hl (by omega) hL ?_
  refine lw_sc C0 hK (z := 2) 2 rfl rfl rfl rfl rfl rfl hl (by omega) hL ?_
  refine lw_sc C0 hK (z := 3) 3 rfl rfl rfl rfl rfl rfl hl (by omega) hL ?_
  refine lw_sc C0 hK (z := 4) 4 rfl rfl rfl rfl rfl rfl hl (by omega) hL ?_
  refine lw_inv C0 hK kp_X_never_0 rfl (n := 4) (a := 0) (N := mm_X_never) rfl rfl rfl rfl rfl (Nat.le_of_ble_eq_true rfl) (Nat.le_of_ble_eq_true rfl) rfl rfl hG ⟨⟨rfl, List.mem_cons_self⟩, ⟨rfl, ab_i32 _⟩, ⟨rfl, ab_i32 _⟩, ⟨rfl, ab_i32 _⟩, ⟨rfl, ab_i32 _⟩, trivial⟩ q1 q2 (fun r0 hp1 o0 ho0 hG1 hr0 hf0 hw0 => ?_)
  have hR1 : nm_R hp1 := nm_R_fr hG hG1 hw0 (show nm_Rf kc_X_never_0.2.2.2.2.1 kc_X_never_0.2.2.2.2.2 = true from by decide +kernel) hR
  obtain ⟨v0, rfl⟩ := nm_rI rfl ho0 hr0
  refine lw_alu C0 hK (len := 1) rfl rfl ?_
  refine lw_aload C0 hK (j := 2) (a := 69) rfl hl.2.2.1 ?_
  refine lw_sc C0 hK (z := 1) 1 rfl rfl rfl rfl rfl rfl hl (by omega) hL ?_
  refine lw_sc C0 hK (z := 2) 2 rfl rfl rfl rfl rfl rfl hl (by omega) hL ?_
  refine lw_sc C0 hK (z := 3) 3 rfl rfl rfl rfl rfl rfl hl (by omega) hL ?_
  refine lw_sc C0 hK (z := 4) 4 rfl rfl rfl rfl rfl rfl hl (by omega) hL ?_
  refine lw_inv C0 hK kp_M_never_0 rfl (n := 4) (a := 69) (N := mm_M_never) rfl rfl rfl rfl rfl (Nat.le_of_ble_eq_true rfl) (Nat.le_of_ble_eq_true rfl) rfl rfl hG1 ⟨⟨rfl, List.mem_cons_self⟩, ⟨rfl, ab_i32 _⟩, ⟨rfl, ab_i32 _⟩, ⟨rfl, ab_i32 _⟩, ⟨rfl, ab_i32 _⟩, trivial⟩ q1 q2 (fun r1 hp2 o1 ho1 hG2 hr1 hf1 hw1 => ?_)
  have hR2 : nm_R hp2 := nm_R_fr hG1 hG2 hw1 (show nm_Rf kc_M_never_0.2.2.2.2.1 kc_M_never_0.2.2.2.2.2 = true from by decide +kernel) hR1
  obtain ⟨v1, rfl⟩ := nm_rI rfl ho1 hr1
  refine lw_alu C0 hK (len := 1) rfl rfl ?_
  refine lw_goto C0 hK (off := 354) rfl ?_
  exact h hp2 hG2 hR2
theorem lk_31 (C0 : lw_At p s m meth c b L xs) (hK : va_K D nm_cl (px_tys nm_T dA) s) (hl : nm_lvk lv i) (hi : i + 6 ≤ L) (hL : L ≤ 3072) (hG : ab_h nm_GH hp) (hR : nm_R hp) (q1 : nc ≤ nm_rc) (q2 : ns ≤ nm_rs) (h : ∀ hp' : px_H, ab_h nm_GH hp' → nm_R hp' → nm_G p l e s m below meth c b D dA (1686, lv, [], hp', nc, ns)) : nm_G p l e s m below meth c b D dA (1335, lv, [], hp, nc, ns) := by
  refine lw_aload C0 hK (j := 1) (a := 0) rfl hl.2.1 ?_
  refine lw_sc C0 hK (z := 1) 1 rfl rfl rfl rfl rfl rfl hl (by omega) hL ?_
  refine lw_sc C0 hK (z := 2) 2 rfl rfl rfl rfl rfl rfl hl (by omega) hL ?_
  refine lw_sc C0 hK (z := 3) 3 rfl rfl rfl rfl rfl rfl hl (by omega) hL ?_
  refine lw_sc C0 hK (z := 4) 4 rfl rfl rfl rfl rfl rfl hl (by omega) hL ?_
  refine lw_inv C0 hK kp_X_even_0 rfl (n := 4) (a := 0) (N := mm_X_even) rfl rfl rfl rfl rfl (Nat.le_of_ble_eq_true rfl) (Nat.le_of_ble_eq_true rfl) rfl rfl hG ⟨⟨rfl, List.mem_cons_self⟩, ⟨rfl, ab_i32 _⟩, ⟨rfl, ab_i32 _⟩, ⟨rfl, ab_i32 _⟩, ⟨rfl, ab_i32 _⟩, trivial⟩ q1 q2 (fun r0 hp1 o0 ho0 hG1 hr0 hf0 hw0 => ?_)
  have hR1 : nm_R hp1 := nm_R_fr hG hG1 hw0 (show nm_Rf kc_X_even_0.2.2.2.2.1 kc_X_even_0.2.2.2.2.2 = true from by decide +kernel) hR
  obtain ⟨v0, rfl⟩ := nm_rI rfl ho0 hr0
  refine lw_alu C0 hK (len := 1) rfl rfl ?_
  refine lw_aload C0 hK (j := 2) (a := 69) rfl hl.2.2.1 ?_
  refine lw_sc C0 hK (z := 1) 1 rfl rfl rfl rfl rfl rfl hl (by omega) hL ?_
  refine lw_sc C0 hK (z := 2) 2 rfl rfl rfl rfl rfl rfl hl (by omega) hL ?_
  refine lw_sc C0 hK (z := 3) 3 rfl rfl rfl rfl rfl rfl hl (by omega) hL ?_
  refine lw_sc C0 hK (z := 4) 4 rfl rfl rfl rfl rfl rfl hl (by omega) hL ?_
  refine lw_inv C0 hK kp_M_even_0 rfl (n := 4) (a := 69) (N := mm_M_even) rfl rfl rfl rfl rfl (Nat.le_of_ble_eq_true rfl) (Nat.le_of_ble_eq_true rfl) rfl rfl hG1 ⟨⟨rfl, List.mem_cons_self⟩, ⟨rfl, ab_i32 _⟩, ⟨rfl, ab_i32 _⟩, ⟨rfl, ab_i32 _⟩, ⟨rfl, ab_i32 _⟩, trivial⟩ q1 q2 (fun r1 hp2 o1 ho1 hG2 hr1 hf1 hw1 => ?_)
  have hR2 : nm_R hp2 := nm_R_fr hG1 hG2 hw1 (show nm_Rf kc_M_even_0.2.2.2.2.1 kc_M_even_0.2.2.2.2.2 = true from by decide +kernel) hR1
  obtain ⟨v1, rfl⟩ := nm_rI rfl ho1 hr1
  refine lw_alu C0 hK (len := 1) rfl rfl ?_
  refine lw_goto C0 hK (off := 293) rfl ?_
  exact h hp2 hG2 hR2
theorem lk_32 (C0 : lw_At p s m meth c b L xs) (hK : va_K D nm_cl (px_tys nm_T dA) s) (hl : nm_lvk lv i) (hi : i + 6 ≤ L) (hL : L ≤ 3072) (hG : ab_h nm_GH hp) (hR : nm_R hp) (q1 : nc ≤ nm_rc) (q2 : ns ≤ nm_rs) (h : ∀ hp' : px_H, ab_h nm_GH hp' → nm_R hp' → nm_G p l e s m below meth c b D dA (1686, lv, [], hp', nc, ns)) : nm_G p l e s m below meth c b D dA (1396, lv, [], hp, nc, ns) := by
  obtain ⟨v0, v1, hp1, hp2, c1, hG1, c2, hG2, hv, hR2⟩ := xp_fair (a0 := xs (i + 1)) (a1 := xs (i + 2)) hG hR
  refine lw_aload C0 hK (j := 1) (a := 0) rfl hl.2.1 ?_
  refine lw_sc C0 hK (z := 1) 1 rfl rfl rfl rfl rfl rfl hl (by omega) hL ?_
  refine lw_sc C0 hK (z := 2) 2 rfl rfl rfl rfl rfl rfl hl (by omega) hL ?_
  refine lw_invC C0 hK (mi := mi_X_fair) (n := 2) (a := 0) (N := mm_X_fair) rfl rfl rfl rfl rfl (Nat.le_of_ble_eq_true rfl) (Nat.le_of_ble_eq_true rfl) rfl rfl hG c1 q1 q2 ?_
  refine lw_alu C0 hK (len := 1) rfl rfl ?_
  refine lw_aload C0 hK (j := 2) (a := 69) rfl hl.2.2.1 ?_
  refine lw_sc C0 hK (z := 1) 1 rfl rfl rfl rfl rfl rfl hl (by omega) hL ?_
  refine lw_sc C0 hK (z := 2) 2 rfl rfl rfl rfl rfl rfl hl (by omega) hL ?_
  refine lw_invC C0 hK (mi := mi_M_fair) (n := 2) (a := 69) (N := mm_M_fair) rfl rfl rfl rfl rfl (Nat.le_of_ble_eq_true rfl) (Nat.le_of_ble_eq_true rfl) rfl rfl hG1 c2 q1 q2 ?_
  refine lw_alu C0 hK (len := 1) rfl rfl ?_
  refine lw_goto C0 hK (off := 256) rfl ?_
  exact h hp2 hG2 hR2
end nm_lk
end mg_2

section mg_3
/-! the law's cases, from 33 -/
section nm_lk
variable {p : Program} {l : Launch} {e : Env} {s : State} {m : MethodId} {below : List Frame} {meth : Method} {c : Code} {b L : Nat} {xs : Nat → Int32} {D : va_G} {dA : Nat → ClassId}
variable {i nc ns : Nat} {lv : List (Nat × Value)} {hp : px_H}
set_option maxRecDepth 100000
theorem lk_33 (C0 : lw_At p s m meth c b L xs) (hK : va_K D nm_cl (px_tys nm_T dA) s) (hl : nm_lvk lv i) (hi : i + 6 ≤ L) (hL : L ≤ 3072) (hG : ab_h nm_GH hp) (hR : nm_R hp) (q1 : nc ≤ nm_rc) (q2 : ns ≤ nm_rs) (h : ∀ hp' : px_H, ab_h nm_GH hp' → nm_R hp' → nm_G p l e s m below meth c b D dA (1686, lv, [], hp', nc, ns)) : nm_G p l e s m below meth c b D dA (1433, lv, [], hp, nc, ns) := by
  obtain ⟨v0, v1, hp1, hp2, c1, hG1, c2, hG2, hv, hR2⟩ := xp_war (a0 := xs (i + 1)) (a1 := xs (i + 2)) hG hR
  refine lw_aload C0 hK (j := 1) (a := 0) rfl hl.2.1 ?_
  refine lw_sc C0 hK (z := 1) 1 rfl rfl rfl rfl rfl rfl hl (by omega) hL ?_
  refine lw_sc C0 hK (z := 2) 2 rfl rfl rfl rfl rfl rfl hl (by omega) hL ?_
  refine lw_invC C0 hK (mi := mi_X_war) (n := 2) (a := 0) (N := mm_X_war) rfl rfl rfl rfl rfl (Nat.le_of_ble_eq_true rfl) (Nat.le_of_ble_eq_true rfl) rfl rfl hG c1 q1 q2 ?_
  refine lw_alu C0 hK (len := 1) rfl rfl ?_
  refine lw_aload C0 hK (j := 2) (a := 69) rfl hl.2.2.1 ?_
  refine lw_sc C0 hK (z := 1) 1 rfl rfl rfl rfl rfl rfl hl (by omega) hL ?_
  refine lw_sc C0 hK (z := 2) 2 rfl rfl rfl rfl rfl rfl hl (by omega) hL ?_
  refine lw_invC C0 hK (mi := mi_M_war) (n := 2) (a := 69) (N := mm_M_war) rfl rfl rfl rfl rfl (Nat.le_of_ble_eq_true rfl) (Nat.le_of_ble_eq_true rfl) rfl rfl hG1 c2 q1 q2 ?_
  refine lw_alu C0 hK (len := 1) rfl rfl ?_
  refine lw_goto C0 hK (off := 219) rfl ?_
  exact h hp2 hG2 hR2
theorem lk_34 (C0 : lw_At p s m meth c b L xs) (hK : va_K D nm_cl (px_tys nm_T dA) s) (hl : nm_lvk lv i) (hi : i + 6 ≤ L) (hL : L ≤ 3072) (hG : ab_h nm_GH hp) (hR : nm_R hp) (q1 : nc ≤ nm_rc) (q2 : ns ≤ nm_rs) (h : ∀ hp' : px_H, ab_h nm_GH hp' → nm_R hp' → nm_G p l e s m below meth c b D dA (1686, lv, [], hp', nc, ns)) : nm_G p l e s m below meth c b D dA (1470, lv, [], hp, nc, ns) := by
  refine lw_aload C0 hK (j := 1) (a := 0) rfl hl.2.1 ?_
  refine lw_sc C0 hK (z := 1) 1 rfl rfl rfl rfl rfl rfl hl (by omega) hL ?_
  refine lw_inv C0 hK kp_X_list_0 rfl (n := 1) (a := 0) (N := mm_X_list) rfl rfl rfl rfl rfl (Nat.le_of_ble_eq_true rfl) (Nat.le_of_ble_eq_true rfl) rfl rfl hG ⟨⟨rfl, List.mem_cons_self⟩, ⟨rfl, ab_i32 _⟩, trivial⟩ q1 q2 (fun r0 hp1 o0 ho0 hG1 hr0 hf0 hw0 => ?_)
  have hR1 : nm_R hp1 := nm_R_fr hG hG1 hw0 (show nm_Rf kc_X_list_0.2.2.2.2.1 kc_X_list_0.2.2.2.2.2 = true from by decide +kernel) hR
  obtain ⟨v0, rfl⟩ := nm_rI rfl ho0 hr0
  refine lw_alu C0 hK (len := 1) rfl rfl ?_
  refine lw_aload C0 hK (j := 2) (a := 69) rfl hl.2.2.1 ?_
  refine lw_sc C0 hK (z := 1) 1 rfl rfl rfl rfl rfl rfl hl (by omega) hL ?_
  refine lw_inv C0 hK kp_M_list_0 rfl (n := 1) (a := 69) (N := mm_M_list) rfl rfl rfl rfl rfl (Nat.le_of_ble_eq_true rfl) (Nat.le_of_ble_eq_true rfl) rfl rfl hG1 ⟨⟨rfl, List.mem_cons_self⟩, ⟨rfl, ab_i32 _⟩, trivial⟩ q1 q2 (fun r1 hp2 o1 ho1 hG2 hr1 hf1 hw1 => ?_)
  have hR2 : nm_R hp2 := nm_R_fr hG1 hG2 hw1 (show nm_Rf kc_M_list_0.2.2.2.2.1 kc_M_list_0.2.2.2.2.2 = true from by decide +kernel) hR1
  obtain ⟨v1, rfl⟩ := nm_rI rfl ho1 hr1
  refine lw_alu C0 hK (len := 1) rfl rfl ?_
  refine lw_goto C0 hK (off := 194) rfl ?_
  exact h hp2 hG2 hR2
theorem lk_35 (C0 : lw_At p s m meth c b L xs) (hK : va_K D nm_cl (px_tys nm_T dA) s) (hl : nm_lvk lv i) (hi : i + 6 ≤ L) (hL : L ≤ 3072) (hG : ab_h nm_GH hp) (hR : nm_R hp) (q1 : nc ≤ nm_rc) (q2 : ns ≤ nm_rs) (h : ∀ hp' : px_H, ab_h nm_GH hp' → nm_R hp' → nm_G p l e s m below meth c b D dA (1686, lv, [], hp', nc, ns)) : nm_G p l e s m below meth c b D dA (1495, lv, [], hp, nc, ns) := by
  refine lw_aload C0 hK (j := 1) (a := 0) rfl hl.2.1 ?_
  refine lw_inv C0 hK kp_X_wipe_0 rfl (n := 0) (a := 0) (N := mm_X_wipe) rfl rfl rfl rfl rfl (Nat.le_of_ble_eq_true rfl) (Nat.le_of_ble_eq_true rfl) rfl rfl hG ⟨⟨rfl, List.mem_cons_self⟩, trivial⟩ q1 q2 (fun r0 hp1 o0 ho0 hG1 hr0 hf0 hw0 => ?_)
  have hR1 : nm_R hp1 := nm_R_fr hG hG1 hw0 (show nm_Rf kc_X_wipe_0.2.2.2.2.1 kc_X_wipe_0.2.2.2.2.2 = true from by decide +kernel) hR
  obtain ⟨v0, rfl⟩ := nm_rI rfl ho0 hr0
  refine lw_alu C0 hK (len := 1) rfl rfl ?_
  refine lw_aload C0 hK (j := 2) (a := 69) rfl hl.2.2.1 ?_
  refine lw_inv C0 hK kp_M_wipe_0 rfl (n := 0) (a := 69) (N := mm_M_wipe) rfl rfl rfl rfl rfl (Nat.le_of_ble_eq_true rfl) (Nat.le_of_ble_eq_true rfl) rfl rfl hG1 ⟨⟨rfl, List.mem_cons_self⟩, trivial⟩ q1 q2 (fun r1 hp2 o1 ho1 hG2 hr1 hf1 hw1 => ?_)
  have hR2 : nm_R hp2 := nm_R_fr hG1 hG2 hw1 (show nm_Rf kc_M_wipe_0.2.2.2.2.1 kc_M_wipe_0.2.2.2.2.2 = true from by decide +kernel) hR1
  obtain ⟨v1, rfl⟩ := nm_rI rfl ho1 hr1
  refine lw_alu C0 hK (len := 1) rfl rfl ?_
  refine lw_goto C0 hK (off := 181) rfl ?_
  exact h hp2 hG2 hR2
theorem lk_36 (C0 : lw_At p s m meth c b L xs) (hK : va_K D nm_cl (px_tys nm_T dA) s) (hl : nm_lvk lv i) (hi : i + 6 ≤ L) (hL : L ≤ 3072) (hG : ab_h nm_GH hp) (hR : nm_R hp) (q1 : nc ≤ nm_rc) (q2 : ns ≤ nm_rs) (h : ∀ hp' : px_H, ab_h nm_GH hp' → nm_R hp' → nm_G p l e s m below meth c b D dA (1686, lv, [], hp', nc, ns)) : nm_G p l e s m below meth c b D dA (1508, lv, [], hp, nc, ns) := by
  refine lw_aload C0 hK (j := 1) (a := 0) rfl hl.2.1 ?_
  refine lw_sc C0 hK (z := 1) 1 rfl rfl rfl rfl rfl rfl hl (by omega) hL ?_
  refine lw_sc C0 hK (z := 2) 2 rfl rfl rfl rfl rfl rfl hl (by omega) hL ?_
  refine lw_inv C0 hK kp_X_old_0 rfl (n := 2) (a := 0) (N := mm_X_old) rfl rfl rfl rfl rfl (Nat.le_of_ble_eq_true rfl) (Nat.le_of_ble_eq_true rfl) rfl rfl hG ⟨⟨rfl, List.mem_cons_self⟩, ⟨rfl, ab_i32 _⟩, ⟨rfl, ab_i32 _⟩, trivial⟩ q1 q2 (fun r0 hp1 o0 ho0 hG1 hr0 hf0 hw0 => ?_)
  have hR1 : nm_R hp1 := nm_R_fr hG hG1 hw0 (show nm_Rf kc_X_old_0.2.2.2.2.1 kc_X_old_0.2.2.2.2.2 = true from by decide +kernel) hR
  obtain ⟨v0, rfl⟩ := nm_rI rfl ho0 hr0
  refine lw_alu C0 hK (len := 1) rfl rfl ?_
  refine lw_aload C0 hK (j := 2) (a := 69) rfl hl.2.2.1 ?_
  refine lw_sc C0 hK (z := 1) 1 rfl rfl rfl rfl rfl rfl hl (by omega) hL ?_
  refine lw_sc C0 hK (z := 2) 2 rfl rfl rfl rfl rfl rfl hl (by omega) hL ?_
  refine lw_inv C0 hK kp_M_old_0 rfl (n := 2) (a := 69) (N := mm_M_old) rfl rfl rfl rfl rfl (Nat.le_of_ble_eq_true rfl) (Nat.le_of_ble_eq_true rfl) rfl rfl hG1 ⟨⟨rfl, List.mem_cons_self⟩, ⟨rfl, ab_i32 _⟩, ⟨rfl, ab_i32 _⟩, trivial⟩ q1 q2 (fun r1 hp2 o1 ho1 hG2 hr1 hf1 hw1 => ?_)
  have hR2 : nm_R hp2 := nm_R_fr hG1 hG2 hw1 (show nm_Rf kc_M_old_0.2.2.2.2.1 kc_M_old_0.2.2.2.2.2 = true from by decide +kernel) hR1
  obtain ⟨v1, rfl⟩ := nm_rI rfl ho1 hr1
  refine lw_alu C0 hK (len := 1) rfl rfl ?_
  refine lw_goto C0 hK (off := 144) rfl ?_
  exact h hp2 hG2 hR2
theorem lk_37 (C0 : lw_At p s m meth c b L xs) (hK : va_K D nm_cl (px_tys nm_T dA) s) (hl : nm_lvk lv i) (hi : i + 6 ≤ L) (hL : L ≤ 3072) (hG : ab_h nm_GH hp) (hR : nm_R hp) (q1 : nc ≤ nm_rc) (q2 : ns ≤ nm_rs) (h : ∀ hp' : px_H, ab_h nm_GH hp' → nm_R hp' → nm_G p l e s m below meth c b D dA (1686, lv, [], hp', nc, ns)) : nm_G p l e s m below meth c b D dA (1545, lv, [], hp, nc, ns) := by
  refine lw_aload C0 hK (j := 1) (a := 0) rfl hl.2.1 ?_
  refine lw_inv C0 hK kp_X_seldom_0 rfl (n := 0) (a := 0) (N := mm_X_seldom) rfl rfl rfl rfl rfl (Nat.le_of_ble_eq_true rfl) (Nat.le_of_ble_eq_true rfl) rfl rfl hG ⟨⟨rfl, List.mem_cons_self⟩, trivial⟩ q1 q2 (fun r0 hp1 o0 ho0 hG1 hr0 hf0 hw0 => ?_)
  have hR1 : nm_R hp1 := nm_R_fr hG hG1 hw0 (show nm_Rf kc_X_seldom_0.2.2.2.2.1 kc_X_seldom_0.2.2.2.2.2 = true from by decide +kernel) hR
  obtain ⟨v0, rfl⟩ := nm_rI rfl ho0 hr0
  refine lw_alu C0 hK (len := 1) rfl rfl ?_
  refine lw_aload C0 hK (j := 2) (a := 69) rfl hl.2.2.1 ?_
  refine lw_inv C0 hK kp_M_seldom_0 rfl (n := 0) (a := 69) (N := mm_M_seldom) rfl rfl rfl rfl rfl (Nat.le_of_ble_eq_true rfl) (Nat.le_of_ble_eq_true rfl) rfl rfl hG1 ⟨⟨rfl, List.mem_cons_self⟩, trivial⟩ q1 q2 (fun r1 hp2 o1 ho1 hG2 hr1 hf1 hw1 => ?_)
  have hR2 : nm_R hp2 := nm_R_fr hG1 hG2 hw1 (show nm_Rf kc_M_seldom_0.2.2.2.2.1 kc_M_seldom_0.2.2.2.2.2 = true from by decide +kernel) hR1
  obtain ⟨v1, rfl⟩ := nm_rI rfl ho1 hr1
  refine lw_alu C0 hK (len := 1) rfl rfl ?_
  refine lw_goto C0 hK (off := 131) rfl ?_
  exact h hp2 hG2 hR2
theorem lk_38 (C0 : lw_At p s m meth c b L xs) (hK : va_K D nm_cl (px_tys nm_T dA) s) (hl : nm_lvk lv i) (hi : i + 6 ≤ L) (hL : L ≤ 3072) (hG : ab_h nm_GH hp) (hR : nm_R hp) (q1 : nc ≤ nm_rc) (q2 : ns ≤ nm_rs) (h : ∀ hp' : px_H, ab_h nm_GH hp' → nm_R hp' → nm_G p l e s m below meth c b D dA (1686, lv, [], hp', nc, ns)) : nm_G p l e s m below meth c b D dA (1558, lv, [], hp, nc, ns) := by
  obtain ⟨v0, v1, hp1, hp2, c1, hG1, c2, hG2, hv, hR2⟩ := xp_seed (a0 := xs (i + 1)) hG hR
  refine lw_aload C0 hK (j := 1) (a := 0) rfl hl.2.1 ?_
  refine lw_sc C0 hK (z := 1) 1 rfl rfl rfl rfl rfl rfl hl (by omega) hL ?_
  refine lw_invC C0 hK (mi := mi_X_seed) (n := 1) (a := 0) (N := mm_X_seed) rfl rfl rfl rfl rfl (Nat.le_of_ble_eq_true rfl) (Nat.le_of_ble_eq_true rfl) rfl rfl hG c1 q1 q2 ?_
  refine lw_alu C0 hK (len := 1) rfl rfl ?_
  refine lw_aload C0 hK (j := 2) (a := 69) rfl hl.2.2.1 ?_
  refine lw_sc C0 hK (z := 1) 1 rfl rfl rfl rfl rfl rfl hl (by omega) hL ?_
  refine lw_invC C0 hK (mi := mi_M_seed) (n := 1) (a := 69) (N := mm_M_seed) rfl rfl rfl rfl rfl (Nat.le_of_ble_eq_true rfl) (Nat.le_of_ble_eq_true rfl) rfl rfl hG1 c2 q1 q2 ?_
  refine lw_alu C0 hK (len := 1) rfl rfl ?_
  refine lw_goto C0 hK (off := 106) rfl ?_
  exact h hp2 hG2 hR2
theorem lk_39 (C0 : lw_At p s m meth c b L xs) (hK : va_K D nm_cl (px_tys nm_T dA) s) (hl : nm_lvk lv i) (hi : i + 6 ≤ L) (hL : L ≤ 3072) (hG : ab_h nm_GH hp) (hR : nm_R hp) (q1 : nc ≤ nm_rc) (q2 : ns ≤ nm_rs) (h : ∀ hp' : px_H, ab_h nm_GH hp' → nm_R hp' → nm_G p l e s m below meth c b D dA (1686, lv, [], hp', nc, ns)) : nm_G p l e s m below meth c b D dA (1583, lv, [], hp, nc, ns) := by
  obtain ⟨v0, v1, hp1, hp2, c1, hG1, c2, hG2, hv, hR2⟩ := xp_keep (a0 := xs (i + 1)) hG hR
  refine lw_aload C0 hK (j := 1) (a := 0) rfl hl.2.1 ?_
  refine lw_sc C0 hK (z := 1) 1 rfl rfl rfl rfl rfl rfl hl (by omega) hL ?_
  refine lw_invC C0 hK (mi := mi_X_keep) (n := 1) (a := 0) (N := mm_X_keep) rfl rfl rfl rfl rfl (Nat.le_of_ble_eq_true rfl) (Nat.le_of_ble_eq_true rfl) rfl rfl hG c1 q1 q2 ?_
  refine lw_alu C0 hK (len := 1) rfl rfl ?_
  refine lw_aload C0 hK (j := 2) (a := 69) rfl hl.2.2.1 ?_
  refine lw_sc C0 hK (z := 1) 1 rfl rfl rfl rfl rfl rfl hl (by omega) hL ?_
  refine lw_invC C0 hK (mi := mi_M_keep) (n := 1) (a := 69) (N := mm_M_keep) rfl rfl rfl rfl rfl (Nat.le_of_ble_eq_true rfl) (Nat.le_of_ble_eq_true rfl) rfl rfl hG1 c2 q1 q2 ?_
  refine lw_alu C0 hK (len := 1) rfl rfl ?_
  refine lw_goto C0 hK (off := 81) rfl ?_
  exact h hp2 hG2 hR2
theorem lk_40 (C0 : lw_At p s m meth c b L xs) (hK : va_K D nm_cl (px_tys nm_T dA) s) (hl : nm_lvk lv i) (hi : i + 6 ≤ L) (hL : L ≤ 3072) (hG : ab_h nm_GH hp) (hR : nm_R hp) (q1 : nc ≤ nm_rc) (q2 : ns ≤ nm_rs) (h : ∀ hp' : px_H, ab_h nm_GH hp' → nm_R hp' → nm_G p l e s m below meth c b D dA (1686, lv, [], hp', nc, ns)) : nm_G p l e s m below meth c b D dA (1608, lv, [], hp, nc, ns) := by
  obtain ⟨v0, v1, hp1, hp2, c1, hG1, c2, hG2, hv, hR2⟩ := xp_again (a0 := xs (i + 1)) hG hR
  refine lw_aload C0 hK (j := 1) (a := 0) rfl hl.2.1 ?_
  refine lw_sc C0 hK (z := 1) 1 rfl rfl rfl rfl rfl rfl hl (by omega) hL ?_
  refine lw_invC C0 hK (mi := mi_X_again) (n := 1) (a := 0) (N := mm_X_again) rfl rfl rfl rfl rfl (Nat.le_of_ble_eq_true rfl) (Nat.le_of_ble_eq_true rfl) rfl rfl hG c1 q1 q2 ?_
  refine lw_alu C0 hK (len := 1) rfl rfl ?_
  refine lw_aload C0 hK (j := 2) (a := 69) rfl hl.2.2.1 ?_
  refine lw_sc C0 hK (z := 1) 1 rfl rfl rfl rfl rfl rfl hl (by omega) hL ?_
  refine lw_invC C0 hK (mi := mi_M_again) (n := 1) (a := 69) (N := mm_M_again) rfl rfl rfl rfl rfl (Nat.le_of_ble_eq_true rfl) (Nat.le_of_ble_eq_true rfl) rfl rfl hG1 c2 q1 q2 ?_
  refine lw_alu C0 hK (len := 1) rfl rfl ?_
  refine lw_goto C0 hK (off := 56) rfl ?_
  exact h hp2 hG2 hR2
theorem lk_41 (C0 : lw_At p s m meth c b L xs) (hK : va_K D nm_cl (px_tys nm_T dA) s) (hl : nm_lvk lv i) (hi : i + 6 ≤ L) (hL : L ≤ 3072) (hG : ab_h nm_GH hp) (hR : nm_R hp) (q1 : nc ≤ nm_rc) (q2 : ns ≤ nm_rs) (h : ∀ hp' : px_H, ab_h nm_GH hp' → nm_R hp' → nm_G p l e s m below meth c b D dA (1686, lv, [], hp', nc, ns)) : nm_G p l e s m below meth c b D dA (1633, lv, [], hp, nc, ns) := by
  refine lw_aload C0 hK (j := 1) (a := 0) rfl hl.2.1 ?_
  refine lw_sc C0 hK (z := 1) 1 rfl rfl rfl rfl rfl rfl hl (by omega) hL ?_
  refine lw_inv C0 hK kp_X_count_0 rfl (n := 1) (a := 0) (N := mm_X_count) rfl rfl rfl rfl rfl (Nat.le_of_ble_eq_true rfl) (Nat.le_of_ble_eq_true rfl) rfl rfl hG ⟨⟨rfl, List.mem_cons_self⟩, ⟨rfl, ab_i32 _⟩, trivial⟩ q1 q2 (fun r0 hp1 o0 ho0 hG1 hr0 hf0 hw0 => ?_)
  have hR1 : nm_R hp1 := nm_R_fr hG hG1 hw0 (show nm_Rf kc_X_count_0.2.2.2.2.1 kc_X_count_0.2.2.2.2.2 = true from by decide +kernel) hR
  obtain ⟨v0, rfl⟩ := nm_rI rfl ho0 hr0
  refine lw_alu C0 hK (len := 1) rfl rfl ?_
  refine lw_aload C0 hK (j := 2) (a := 69) rfl hl.2.2.1 ?_
  refine lw_sc C0 hK (z := 1) 1 rfl rfl rfl rfl rfl rfl hl (by omega) hL ?_
  refine lw_inv C0 hK kp_M_count_0 rfl (n := 1) (a := 69) (N := mm_M_count) rfl rfl rfl rfl rfl (Nat.le_of_ble_eq_true rfl) (Nat.le_of_ble_eq_true rfl) rfl rfl hG1 ⟨⟨rfl, List.mem_cons_self⟩, ⟨rfl, ab_i32 _⟩, trivial⟩ q1 q2 (fun r1 hp2 o1 ho1 hG2 hr1 hf1 hw1 => ?_)
  have hR2 : nm_R hp2 := nm_R_fr hG1 hG2 hw1 (show nm_Rf kc_M_count_0.2.2.2.2.1 kc_M_count_0.2.2.2.2.2 = true from by decide +kernel) hR1
  obtain ⟨v1, rfl⟩ := nm_rI rfl ho1 hr1
  refine lw_alu C0 hK (len := 1) rfl rfl ?_
  refine lw_goto C0 hK (off := 31) rfl ?_
  exact h hp2 hG2 hR2
end nm_lk
end mg_3
