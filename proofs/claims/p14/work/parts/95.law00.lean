/-! the law's cases, from 0 -/
section nm_lk
variable {p : Program} {l : Launch} {e : Env} {s : State} {m : MethodId} {below : List Frame} {meth : Method} {c : Code} {b L : Nat} {xs : Nat → Int32} {D : va_G} {dA : Nat → ClassId}
variable {i nc ns : Nat} {lv : List (Nat × Value)} {hp : px_H}
set_option maxRecDepth 100000
theorem lk_0 (C0 : lw_At p s m meth c b L xs) (hK : va_K D nm_cl (px_tys nm_T dA) s) (hl : nm_lvk lv i) (hi : i + 6 ≤ L) (hL : L ≤ 3072) (hG : ab_h nm_GH hp) (hR : nm_R hp) (q1 : nc ≤ nm_rc) (q2 : ns ≤ nm_rs) (h : ∀ hp' : px_H, ab_h nm_GH hp' → nm_R hp' → nm_G p l e s m below meth c b D dA (1686, lv, [], hp', nc, ns)) : nm_G p l e s m below meth c b D dA (228, lv, [], hp, nc, ns) := by
  obtain ⟨v0, v1, hp1, hp2, c1, hG1, c2, hG2, hv, hR2⟩ := xp_person (a0 := xs (i + 1)) hG hR
  refine lw_aload C0 hK (j := 1) (a := 0) rfl hl.2.1 ?_
  refine lw_sc C0 hK (z := 1) 1 rfl rfl rfl rfl rfl rfl hl (by omega) hL ?_
  refine lw_invC C0 hK (mi := mi_X_person) (n := 1) (a := 0) (N := mm_X_person) rfl rfl rfl rfl rfl (Nat.le_of_ble_eq_true rfl) (Nat.le_of_ble_eq_true rfl) rfl rfl hG c1 q1 q2 ?_
  refine lw_alu C0 hK (len := 1) rfl rfl ?_
  refine lw_aload C0 hK (j := 2) (a := 69) rfl hl.2.2.1 ?_
  refine lw_sc C0 hK (z := 1) 1 rfl rfl rfl rfl rfl rfl hl (by omega) hL ?_
  refine lw_invC C0 hK (mi := mi_M_person) (n := 1) (a := 69) (N := mm_M_person) rfl rfl rfl rfl rfl (Nat.le_of_ble_eq_true rfl) (Nat.le_of_ble_eq_true rfl) rfl rfl hG1 c2 q1 q2 ?_
  refine lw_alu C0 hK (len := 1) rfl rfl ?_
  refine lw_goto C0 hK (off := 1436) rfl ?_
  exact h hp2 hG2 hR2
theorem lk_1 (C0 : lw_At p s m meth c b L xs) (hK : va_K D nm_cl (px_tys nm_T dA) s) (hl : nm_lvk lv i) (hi : i + 6 ≤ L) (hL : L ≤ 3072) (hG : ab_h nm_GH hp) (hR : nm_R hp) (q1 : nc ≤ nm_rc) (q2 : ns ≤ nm_rs) (h : ∀ hp' : px_H, ab_h nm_GH hp' → nm_R hp' → nm_G p l e s m below meth c b D dA (1686, lv, [], hp', nc, ns)) : nm_G p l e s m below meth c b D dA (253, lv, [], hp, nc, ns) := by
  obtain ⟨v0, v1, hp1, hp2, c1, hG1, c2, hG2, hv, hR2⟩ := xp_debt (a0 := xs (i + 1)) (a1 := xs (i + 2)) hG hR
  refine lw_aload C0 hK (j := 1) (a := 0) rfl hl.2.1 ?_
  refine lw_sc C0 hK (z := 1) 1 rfl rfl rfl rfl rfl rfl hl (by omega) hL ?_
  refine lw_sc C0 hK (z := 2) 2 rfl rfl rfl rfl rfl rfl hl (by omega) hL ?_
  refine lw_invC C0 hK (mi := mi_X_debt) (n := 2) (a := 0) (N := mm_X_debt) rfl rfl rfl rfl rfl (Nat.le_of_ble_eq_true rfl) (Nat.le_of_ble_eq_true rfl) rfl rfl hG c1 q1 q2 ?_
  refine lw_alu C0 hK (len := 1) rfl rfl ?_
  refine lw_aload C0 hK (j := 2) (a := 69) rfl hl.2.2.1 ?_
  refine lw_sc C0 hK (z := 1) 1 rfl rfl rfl rfl rfl rfl hl (by omega) hL ?_
  refine lw_sc C0 hK (z := 2) 2 rfl rfl rfl rfl rfl rfl hl (by omega) hL ?_
  refine lw_invC C0 hK (mi := mi_M_debt) (n := 2) (a := 69) (N := mm_M_debt) rfl rfl rfl rfl rfl (Nat.le_of_ble_eq_true rfl) (Nat.le_of_ble_eq_true rfl) rfl rfl hG1 c2 q1 q2 ?_
  refine lw_alu C0 hK (len := 1) rfl rfl ?_
  refine lw_goto C0 hK (off := 1399) rfl ?_
  exact h hp2 hG2 hR2
theorem lk_2 (C0 : lw_At p s m meth c b L xs) (hK : va_K D nm_cl (px_tys nm_T dA) s) (hl : nm_lvk lv i) (hi : i + 6 ≤ L) (hL : L ≤ 3072) (hG : ab_h nm_GH hp) (hR : nm_R hp) (q1 : nc ≤ nm_rc) (q2 : ns ≤ nm_rs) (h : ∀ hp' : px_H, ab_h nm_GH hp' → nm_R hp' → nm_G p l e s m below meth c b D dA (1686, lv, [], hp', nc, ns)) : nm_G p l e s m below meth c b D dA (290, lv, [], hp, nc, ns) := by
  obtain ⟨v0, v1, hp1, hp2, c1, hG1, c2, hG2, hv, hR2⟩ := xp_away (a0 := xs (i + 1)) (a1 := xs (i + 2)) (a2 := xs (i + 3)) hG hR
  refine lw_aload C0 hK (j := 1) (a := 0) rfl hl.2.1 ?_
  refine lw_sc C0 hK (z := 1) 1 rfl rfl rfl rfl rfl rfl hl (by omega) hL ?_
  refine lw_sc C0 hK (z := 2) 2 rfl rfl rfl rfl rfl rfl hl (by omega) hL ?_
  refine lw_sc C0 hK (z := 3) 3 rfl rfl rfl rfl rfl rfl hl (by omega) hL ?_
  refine lw_invC C0 hK (mi := mi_X_away) (n := 3) (a := 0) (N := mm_X_away) rfl rfl rfl rfl rfl (Nat.le_of_ble_eq_true rfl) (Nat.le_of_ble_eq_true rfl) rfl rfl hG c1 q1 q2 ?_
  refine lw_alu C0 hK (len := 1) rfl rfl ?_
  refine lw_aload C0 hK (j := 2) (a := 69) rfl hl.2.2.1 ?_
  refine lw_sc C0 hK (z := 1) 1 rfl rfl rfl rfl rfl rfl hl (by omega) hL ?_
  refine lw_sc C0 hK (z := 2) 2 rfl rfl rfl rfl rfl rfl hl (by omega) hL ?_
  refine lw_sc C0 hK (z := 3) 3 rfl rfl rfl rfl rfl rfl hl (by omega) hL ?_
  refine lw_invC C0 hK (mi := mi_M_away) (n := 3) (a := 69) (N := mm_M_away) rfl rfl rfl rfl rfl (Nat.le_of_ble_eq_true rfl) (Nat.le_of_ble_eq_true rfl) rfl rfl hG1 c2 q1 q2 ?_
  refine lw_alu C0 hK (len := 1) rfl rfl ?_
  refine lw_goto C0 hK (off := 1350) rfl ?_
  exact h hp2 hG2 hR2
theorem lk_3 (C0 : lw_At p s m meth c b L xs) (hK : va_K D nm_cl (px_tys nm_T dA) s) (hl : nm_lvk lv i) (hi : i + 6 ≤ L) (hL : L ≤ 3072) (hG : ab_h nm_GH hp) (hR : nm_R hp) (q1 : nc ≤ nm_rc) (q2 : ns ≤ nm_rs) (h : ∀ hp' : px_H, ab_h nm_GH hp' → nm_R hp' → nm_G p l e s m below meth c b D dA (1686, lv, [], hp', nc, ns)) : nm_G p l e s m below meth c b D dA (339, lv, [], hp, nc, ns) := by
  obtain ⟨v0, v1, hp1, hp2, c1, hG1, c2, hG2, hv, hR2⟩ := xp_dies (a0 := xs (i + 1)) (a1 := xs (i + 2)) hG hR
  refine lw_aload C0 hK (j := 1) (a := 0) rfl hl.2.1 ?_
  refine lw_sc C0 hK (z := 1) 1 rfl rfl rfl rfl rfl rfl hl (by omega) hL ?_
  refine lw_sc C0 hK (z := 2) 2 rfl rfl rfl rfl rfl rfl hl (by omega) hL ?_
  refine lw_invC C0 hK (mi := mi_X_dies) (n := 2) (a := 0) (N := mm_X_dies) rfl rfl rfl rfl rfl (Nat.le_of_ble_eq_true rfl) (Nat.le_of_ble_eq_true rfl) rfl rfl hG c1 q1 q2 ?_
  refine lw_alu C0 hK (len := 1) rfl rfl ?_
  refine lw_aload C0 hK (j := 2) (a := 69) rfl hl.2.2.1 ?_
  refine lw_sc C0 hK (z := 1) 1 rfl rfl rfl rfl rfl rfl hl (by omega) hL ?_
  refine lw_sc C0 hK (z := 2) 2 rfl rfl rfl rfl rfl rfl hl (by omega) hL ?_
  refine lw_invC C0 hK (mi := mi_M_dies) (n := 2) (a := 69) (N := mm_M_dies) rfl rfl rfl rfl rfl (Nat.le_of_ble_eq_true rfl) (Nat.le_of_ble_eq_true rfl) rfl rfl hG1 c2 q1 q2 ?_
  refine lw_alu C0 hK (len := 1) rfl rfl ?_
  refine lw_goto C0 hK (off := 1313) rfl ?_
  exact h hp2 hG2 hR2
theorem lk_4 (C0 : lw_At p s m meth c b L xs) (hK : va_K D nm_cl (px_tys nm_T dA) s) (hl : nm_lvk lv i) (hi : i + 6 ≤ L) (hL : L ≤ 3072) (hG : ab_h nm_GH hp) (hR : nm_R hp) (q1 : nc ≤ nm_rc) (q2 : ns ≤ nm_rs) (h : ∀ hp' : px_H, ab_h nm_GH hp' → nm_R hp' → nm_G p l e s m below meth c b D dA (1686, lv, [], hp', nc, ns)) : nm_G p l e s m below meth c b D dA (376, lv, [], hp, nc, ns) := by
  obtain ⟨v0, v1, hp1, hp2, c1, hG1, c2, hG2, hv, hR2⟩ := xp_sheet (a0 := xs (i + 1)) (a1 := xs (i + 2)) (a2 := xs (i + 3)) (a3 := xs (i + 4)) hG hR
  refine lw_aload C0 hK (j := 1) (a := 0) rfl hl.2.1 ?_
  refine lw_sc C0 hK (z := 1) 1 rfl rfl rfl rfl rfl rfl hl (by omega) hL ?_
  refine lw_sc C0 hK (z := 2) 2 rfl rfl rfl rfl rfl rfl hl (by omega) hL ?_
  refine lw_sc C0 hK (z := 3) 3 rfl rfl rfl rfl rfl rfl hl (by omega) hL ?_
  refine lw_sc C0 hK (z := 4) 4 rfl rfl rfl rfl rfl rfl hl (by omega) hL ?_
  refine lw_invC C0 hK (mi := mi_X_sheet) (n := 4) (a := 0) (N := mm_X_sheet) rfl rfl rfl rfl rfl (Nat.le_of_ble_eq_true rfl) (Nat.le_of_ble_eq_true rfl) rfl rfl hG c1 q1 q2 ?_
  refine lw_alu C0 hK (len := 1) rfl rfl ?_
  refine lw_aload C0 hK (j := 2) (a := 69) rfl hl.2.2.1 ?_
  refine lw_sc C0 hK (z := 1) 1 rfl rfl rfl rfl rfl rfl hl (by omega) hL ?_
  refine lw_sc C0 hK (z := 2) 2 rfl rfl rfl rfl rfl rfl hl (by omega) hL ?_
  refine lw_sc C0 hK (z := 3) 3 rfl rfl rfl rfl rfl rfl hl (by omega) hL ?_
  refine lw_sc C0 hK (z := 4) 4 rfl rfl rfl rfl rfl rfl hl (by omega) hL ?_
  refine lw_invC C0 hK (mi := mi_M_sheet) (n := 4) (a := 69) (N := mm_M_sheet) rfl rfl rfl rfl rfl (Nat.le_of_ble_eq_true rfl) (Nat.le_of_ble_eq_true rfl) rfl rfl hG1 c2 q1 q2 ?_
  refine lw_alu C0 hK (len := 1) rfl rfl ?_
  refine lw_goto C0 hK (off := 1252) rfl ?_
  exact h hp2 hG2 hR2
theorem lk_5 (C0 : lw_At p s m meth c b L xs) (hK : va_K D nm_cl (px_tys nm_T dA) s) (hl : nm_lvk lv i) (hi : i + 6 ≤ L) (hL : L ≤ 3072) (hG : ab_h nm_GH hp) (hR : nm_R hp) (q1 : nc ≤ nm_rc) (q2 : ns ≤ nm_rs) (h : ∀ hp' : px_H, ab_h nm_GH hp' → nm_R hp' → nm_G p l e s m below meth c b D dA (1686, lv, [], hp', nc, ns)) : nm_G p l e s m below meth c b D dA (437, lv, [], hp, nc, ns) := by
  obtain ⟨v0, v1, hp1, hp2, c1, hG1, c2, hG2, hv, hR2⟩ := xp_pack (a0 := xs (i + 1)) (a1 := xs (i + 2)) hG hR
  refine lw_aload C0 hK (j := 1) (a := 0) rfl hl.2.1 ?_
  refine lw_sc C0 hK (z := 1) 1 rfl rfl rfl rfl rfl rfl hl (by omega) hL ?_
  refine lw_sc C0 hK (z := 2) 2 rfl rfl rfl rfl rfl rfl hl (by omega) hL ?_
  refine lw_invC C0 hK (mi := mi_X_pack) (n := 2) (a := 0) (N := mm_X_pack) rfl rfl rfl rfl rfl (Nat.le_of_ble_eq_true rfl) (Nat.le_of_ble_eq_true rfl) rfl rfl hG c1 q1 q2 ?_
  refine lw_alu C0 hK (len := 1) rfl rfl ?_
  refine lw_aload C0 hK (j := 2) (a := 69) rfl hl.2.2.1 ?_
  refine lw_sc C0 hK (z := 1) 1 rfl rfl rfl rfl rfl rfl hl (by omega) hL ?_
  refine lw_sc C0 hK (z := 2) 2 rfl rfl rfl rfl rfl rfl hl (by omega) hL ?_
  refine lw_invC C0 hK (mi := mi_M_pack) (n := 2) (a := 69) (N := mm_M_pack) rfl rfl rfl rfl rfl (Nat.le_of_ble_eq_true rfl) (Nat.le_of_ble_eq_true rfl) rfl rfl hG1 c2 q1 q2 ?_
  refine lw_alu C0 hK (len := 1) rfl rfl ?_
  refine lw_goto C0 hK (off := 1215) rfl ?_
  exact h hp2 hG2 hR2
theorem lk_6 (C0 : lw_At p s m meth c b L xs) (hK : va_K D nm_cl (px_tys nm_T dA) s) (hl : nm_lvk lv i) (hi : i + 6 ≤ L) (hL : L ≤ 3072) (hG : ab_h nm_GH hp) (hR : nm_R hp) (q1 : nc ≤ nm_rc) (q2 : ns ≤ nm_rs) (h : ∀ hp' : px_H, ab_h nm_GH hp' → nm_R hp' → nm_G p l e s m below meth c b D dA (1686, lv, [], hp', nc, ns)) : nm_G p l e s m below meth c b D dA (474, lv, [], hp, nc, ns) := by
  obtain ⟨v0, v1, hp1, hp2, c1, hG1, c2, hG2, hv, hR2⟩ := xp_renew (a0 := xs (i + 1)) (a1 := nm_b01 (xs (i + 2))) (nm_b01_in _) hG hR
  refine lw_aload C0 hK (j := 1) (a := 0) rfl hl.2.1 ?_
  refine lw_sc C0 hK (z := 1) 1 rfl rfl rfl rfl rfl rfl hl (by omega) hL ?_
  refine lw_sc C0 hK (z := 2) 2 rfl rfl rfl rfl rfl rfl hl (by omega) hL ?_
  refine lw_bool C0 hK rfl rfl rfl rfl rfl rfl ?_
  refine lw_invC C0 hK (mi := mi_X_renew) (n := 2) (a := 0) (N := mm_X_renew) rfl rfl rfl rfl rfl (Nat.le_of_ble_eq_true rfl) (Nat.le_of_ble_eq_true rfl) rfl rfl hG c1 q1 q2 ?_
  refine lw_alu C0 hK (len := 1) rfl rfl ?_
  refine lw_aload C0 hK (j := 2) (a := 69) rfl hl.2.2.1 ?_
  refine lw_sc C0 hK (z := 1) 1 rfl rfl rfl rfl rfl rfl hl (by omega) hL ?_
  refine lw_sc C0 hK (z := 2) 2 rfl rfl rfl rfl rfl rfl hl (by omega) hL ?_
  refine lw_bool C0 hK rfl rfl rfl rfl rfl rfl ?_
  refine lw_invC C0 hK (mi := mi_M_renew) (n := 2) (a := 69) (N := mm_M_renew) rfl rfl rfl rfl rfl (Nat.le_of_ble_eq_true rfl) (Nat.le_of_ble_eq_true rfl) rfl rfl hG1 c2 q1 q2 ?_
  refine lw_alu C0 hK (len := 1) rfl rfl ?_
  refine lw_goto C0 hK (off := 1162) rfl ?_
  exact h hp2 hG2 hR2
theorem lk_7 (C0 : lw_At p s m meth c b L xs) (hK : va_K D nm_cl (px_tys nm_T dA) s) (hl : nm_lvk lv i) (hi : i + 6 ≤ L) (hL : L ≤ 3072) (hG : ab_h nm_GH hp) (hR : nm_R hp) (q1 : nc ≤ nm_rc) (q2 : ns ≤ nm_rs) (h : ∀ hp' : px_H, ab_h nm_GH hp' → nm_R hp' → nm_G p l e s m below meth c b D dA (1686, lv, [], hp', nc, ns)) : nm_G p l e s m below meth c b D dA (527, lv, [], hp, nc, ns) := by
  obtain ⟨v0, v1, hp1, hp2, c1, hG1, c2, hG2, hv, hR2⟩ := xp_drawing (a0 := xs (i + 1)) (a1 := xs (i + 2)) (a2 := xs (i + 3)) hG hR
  refine lw_aload C0 hK (j := 1) (a := 0) rfl hl.2.1 ?_
  refine lw_sc C0 hK (z := 1) 1 rfl rfl rfl rfl rfl rfl hl (by omega) hL ?_
  refine lw_sc C0 hK (z := 2) 2 rfl rfl rfl rfl rfl rfl hl (by omega) hL ?_
  refine lw_sc C0 hK (z := 3) 3 rfl rfl rfl rfl rfl rfl hl (by omega) hL ?_
  refine lw_invC C0 hK (mi := mi_X_drawing) (n := 3) (a := 0) (N := mm_X_drawing) rfl rfl rfl rfl rfl (Nat.le_of_ble_eq_true rfl) (Nat.le_of_ble_eq_true rfl) rfl rfl hG c1 q1 q2 ?_
  refine lw_alu C0 hK (len := 1) rfl rfl ?_
  refine lw_aload C0 hK (j := 2) (a := 69) rfl hl.2.2.1 ?_
  refine lw_sc C0 hK (z := 1) 1 rfl rfl rfl rfl rfl rfl hl (by omega) hL ?_
  refine lw_sc C0 hK (z := 2) 2 rfl rfl rfl rfl rfl rfl hl (by omega) hL ?_
  refine lw_sc C0 hK (z := 3) 3 rfl rfl rfl rfl rfl rfl hl (by omega) hL ?_
  refine lw_invC C0 hK (mi := mi_M_drawing) (n := 3) (a := 69) (N := mm_M_drawing) rfl rfl rfl rfl rfl (Nat.le_of_ble_eq_true rfl) (Nat.le_of_ble_eq_true rfl) rfl rfl hG1 c2 q1 q2 ?_
  refine lw_alu C0 hK (len := 1) rfl rfl ?_
  refine lw_goto C0 hK (off := 1113) rfl ?_
  exact h hp2 hG2 hR2
theorem lk_8 (C0 : lw_At p s m meth c b L xs) (hK : va_K D nm_cl (px_tys nm_T dA) s) (hl : nm_lvk lv i) (hi : i + 6 ≤ L) (hL : L ≤ 3072) (hG : ab_h nm_GH hp) (hR : nm_R hp) (q1 : nc ≤ nm_rc) (q2 : ns ≤ nm_rs) (h : ∀ hp' : px_H, ab_h nm_GH hp' → nm_R hp' → nm_G p l e s m below meth c b D dA (1686, lv, [], hp', nc, ns)) : nm_G p l e s m below meth c b D dA (576, lv, [], hp, nc, ns) := by
  obtain ⟨v0, v1, hp1, hp2, c1, hG1, c2, hG2, hv, hR2⟩ := xp_sign (a0 := xs (i + 1)) hG hR
  refine lw_aload C0 hK (j := 1) (a := 0) rfl hl.2.1 ?_
  refine lw_sc C0 hK (z := 1) 1 rfl rfl rfl rfl rfl rfl hl (by omega) hL ?_
  refine lw_invC C0 hK (mi := mi_X_sign) (n := 1) (a := 0) (N := mm_X_sign) rfl rfl rfl rfl rfl (Nat.le_of_ble_eq_true rfl) (Nat.le_of_ble_eq_true rfl) rfl rfl hG c1 q1 q2 ?_
  refine lw_alu C0 hK (len := 1) rfl rfl ?_
  refine lw_aload C0 hK (j := 2) (a := 69) rfl hl.2.2.1 ?_
  refine lw_sc C0 hK (z := 1) 1 rfl rfl rfl rfl rfl rfl hl (by omega) hL ?_
  refine lw_invC C0 hK (mi := mi_M_sign) (n := 1) (a := 69) (N := mm_M_sign) rfl rfl rfl rfl rfl (Nat.le_of_ble_eq_true rfl) (Nat.le_of_ble_eq_true rfl) rfl rfl hG1 c2 q1 q2 ?_
  refine lw_alu C0 hK (len := 1) rfl rfl ?_
  refine lw_goto C0 hK (off := 1088) rfl ?_
  exact h hp2 hG2 hR2
theorem lk_9 (C0 : lw_At p s m meth c b L xs) (hK : va_K D nm_cl (px_tys nm_T dA) s) (hl : nm_lvk lv i) (hi : i + 6 ≤ L) (hL : L ≤ 3072) (hG : ab_h nm_GH hp) (hR : nm_R hp) (q1 : nc ≤ nm_rc) (q2 : ns ≤ nm_rs) (h : ∀ hp' : px_H, ab_h nm_GH hp' → nm_R hp' → nm_G p l e s m below meth c b D dA (1686, lv, [], hp', nc, ns)) : nm_G p l e s m below meth c b D dA (601, lv, [], hp, nc, ns) := by
  obtain ⟨v0, v1, hp1, hp2, c1, hG1, c2, hG2, hv, hR2⟩ := xp_end (a0 := xs (i + 1)) hG hR
  refine lw_aload C0 hK (j := 1) (a := 0) rfl hl.2.1 ?_
  refine lw_sc C0 hK (z := 1) 1 rfl rfl rfl rfl rfl rfl hl (by omega) hL ?_
  refine lw_invC C0 hK (mi := mi_X_end) (n := 1) (a := 0) (N := mm_X_end) rfl rfl rfl rfl rfl (Nat.le_of_ble_eq_true rfl) (Nat.le_of_ble_eq_true rfl) rfl rfl hG c1 q1 q2 ?_
  refine lw_alu C0 hK (len := 1) rfl rfl ?_
  refine lw_aload C0 hK (j := 2) (a := 69) rfl hl.2.2.1 ?_
  refine lw_sc C0 hK (z := 1) 1 rfl rfl rfl rfl rfl rfl hl (by omega) hL ?_
  refine lw_invC C0 hK (mi := mi_M_end) (n := 1) (a := 69) (N := mm_M_end) rfl rfl rfl rfl rfl (Nat.le_of_ble_eq_true rfl) (Nat.le_of_ble_eq_true rfl) rfl rfl hG1 c2 q1 q2 ?_
  refine lw_alu C0 hK (len := 1) rfl rfl ?_
  refine lw_goto C0 hK (off := 1063) rfl ?_
  exact h hp2 hG2 hR2
theorem lk_10 (C0 : lw_At p s m meth c b L xs) (hK : va_K D nm_cl (px_tys nm_T dA) s) (hl : nm_lvk lv i) (hi : i + 6 ≤ L) (hL : L ≤ 3072) (hG : ab_h nm_GH hp) (hR : nm_R hp) (q1 : nc ≤ nm_rc) (q2 : ns ≤ nm_rs) (h : ∀ hp' : px_H, ab_h nm_GH hp' → nm_R hp' → nm_G p l e s m below meth c b D dA (1686, lv, [], hp', nc, ns)) : nm_G p l e s m below meth c b D dA (626, lv, [], hp, nc, ns) := by
  obtain ⟨v0, v1, hp1, hp2, c1, hG1, c2, hG2, hv, hR2⟩ := xp_rule hG hR
  refine lw_aload C0 hK (j := 1) (a := 0) rfl hl.2.1 ?_
  refine lw_invC C0 hK (mi := mi_X_rule) (n := 0) (a := 0) (N := mm_X_rule) rfl rfl rfl rfl rfl (Nat.le_of_ble_eq_true rfl) (Nat.le_of_ble_eq_true rfl) rfl rfl hG c1 q1 q2 ?_
  refine lw_alu C0 hK (len := 1) rfl rfl ?_
  refine lw_aload C0 hK (j := 2) (a := 69) rfl hl.2.2.1 ?_
  refine lw_invC C0 hK (mi := mi_M_rule) (n := 0) (a := 69) (N := mm_M_rule) rfl rfl rfl rfl rfl (Nat.le_of_ble_eq_true rfl) (Nat.le_of_ble_eq_true rfl) rfl rfl hG1 c2 q1 q2 ?_
  refine lw_alu C0 hK (len := 1) rfl rfl ?_
  refine lw_goto C0 hK (off := 1050) rfl ?_
  exact h hp2 hG2 hR2
end nm_lk
