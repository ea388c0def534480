/-! the law's cases, from 11 -/
section nm_lk
variable {p : Program} {l : Launch} {e : Env} {s : State} {m : MethodId} {below : List Frame} {meth : Method} {c : Code} {b L : Nat} {xs : Nat → Int32} {D : va_G} {dA : Nat → ClassId}
variable {i nc ns : Nat} {lv : List (Nat × Value)} {hp : px_H}
set_option maxRecDepth 100000
theorem lk_11 (C0 : lw_At p s m meth c b L xs) (hK : va_K D nm_cl (px_tys nm_T dA) s) (hl : nm_lvk lv i) (hi : i + 6 ≤ L) (hL : L ≤ 3072) (hG : ab_h nm_GH hp) (hR : nm_R hp) (q1 : nc ≤ nm_rc) (q2 : ns ≤ nm_rs) (h : ∀ hp' : px_H, ab_h nm_GH hp' → nm_R hp' → nm_G p l e s m below meth c b D dA (1686, lv, [], hp', nc, ns)) : nm_G p l e s m below meth c b D dA (639, lv, [], hp, nc, ns) := by
  obtain ⟨v0, v1, hp1, hp2, c1, hG1, c2, hG2, hv, hR2⟩ := xp_other (a0 := xs (i + 1)) hG hR
  refine lw_aload C0 hK (j := 1) (a := 0) rfl hl.2.1 ?_
  refine lw_sc C0 hK (z := 1) 1 rfl rfl rfl rfl rfl rfl hl (by omega) hL ?_
  refine lw_invC C0 hK (mi := mi_X_other) (n := 1) (a := 0) (N := mm_X_other) rfl rfl rfl rfl rfl (Nat.le_of_ble_eq_true rfl) (Nat.le_of_ble_eq_true rfl) rfl rfl hG c1 q1 q2 ?_
  refine lw_alu C0 hK (len := 1) rfl rfl ?_
  refine lw_aload C0 hK (j := 2) (a := 69) rfl hl.2.2.1 ?_
  refine lw_sc C0 hK (z := 1) 1 rfl rfl rfl rfl rfl rfl hl (by omega) hL ?_
  refine lw_invC C0 hK (mi := mi_M_other) (n := 1) (a := 69) (N := mm_M_other) rfl rfl rfl rfl rfl (Nat.le_of_ble_eq_true rfl) (Nat.le_of_ble_eq_true rfl) rfl rfl hG1 c2 q1 q2 ?_
  refine lw_alu C0 hK (len := 1) rfl rfl ?_
  refine lw_goto C0 hK (off := 1025) rfl ?_
  exact h hp2 hG2 hR2
theorem lk_12 (C0 : lw_At p s m meth c b L xs) (hK : va_K D nm_cl (px_tys nm_T dA) s) (hl : nm_lvk lv i) (hi : i + 6 ≤ L) (hL : L ≤ 3072) (hG : ab_h nm_GH hp) (hR : nm_R hp) (q1 : nc ≤ nm_rc) (q2 : ns ≤ nm_rs) (h : ∀ hp' : px_H, ab_h nm_GH hp' → nm_R hp' → nm_G p l e s m below meth c b D dA (1686, lv, [], hp', nc, ns)) : nm_G p l e s m below meth c b D dA (664, lv, [], hp, nc, ns) := by
  obtain ⟨v0, v1, hp1, hp2, c1, hG1, c2, hG2, hv, hR2⟩ := xp_bars (a0 := xs (i + 1)) hG hR
  refine lw_aload C0 hK (j := 1) (a := 0) rfl hl.2.1 ?_
  refine lw_sc C0 hK (z := 1) 1 rfl rfl rfl rfl rfl rfl hl (by omega) hL ?_
  refine lw_invC C0 hK (mi := mi_X_bars) (n := 1) (a := 0) (N := mm_X_bars) rfl rfl rfl rfl rfl (Nat.le_of_ble_eq_true rfl) (Nat.le_of_ble_eq_true rfl) rfl rfl hG c1 q1 q2 ?_
  refine lw_aload C0 hK (j := 2) (a := 69) rfl hl.2.2.1 ?_
  refine lw_sc C0 hK (z := 1) 1 rfl rfl rfl rfl rfl rfl hl (by omega) hL ?_
  refine lw_invC C0 hK (mi := mi_M_bars) (n := 1) (a := 69) (N := mm_M_bars) rfl rfl rfl rfl rfl (Nat.le_of_ble_eq_true rfl) (Nat.le_of_ble_eq_true rfl) rfl rfl hG1 c2 q1 q2 ?_
  have hv := hv rfl
  refine lw_ieq C0 hK (off := 1002) rfl hv ?_
  exact h hp2 hG2 hR2
theorem lk_13 (C0 : lw_At p s m meth c b L xs) (hK : va_K D nm_cl (px_tys nm_T dA) s) (hl : nm_lvk lv i) (hi : i + 6 ≤ L) (hL : L ≤ 3072) (hG : ab_h nm_GH hp) (hR : nm_R hp) (q1 : nc ≤ nm_rc) (q2 : ns ≤ nm_rs) (h : ∀ hp' : px_H, ab_h nm_GH hp' → nm_R hp' → nm_G p l e s m below meth c b D dA (1686, lv, [], hp', nc, ns)) : nm_G p l e s m below meth c b D dA (689, lv, [], hp, nc, ns) := by
  obtain ⟨v0, v1, hp1, hp2, c1, hG1, c2, hG2, hv, hR2⟩ := xp_run hG hR
  refine lw_aload C0 hK (j := 1) (a := 0) rfl hl.2.1 ?_
  refine lw_invC C0 hK (mi := mi_X_run) (n := 0) (a := 0) (N := mm_X_run) rfl rfl rfl rfl rfl (Nat.le_of_ble_eq_true rfl) (Nat.le_of_ble_eq_true rfl) rfl rfl hG c1 q1 q2 ?_
  refine lw_alu C0 hK (len := 1) rfl rfl ?_
  refine lw_aload C0 hK (j := 2) (a := 69) rfl hl.2.2.1 ?_
  refine lw_invC C0 hK (mi := mi_M_run) (n := 0) (a := 69) (N := mm_M_run) rfl rfl rfl rfl rfl (Nat.le_of_ble_eq_true rfl) (Nat.le_of_ble_eq_true rfl) rfl rfl hG1 c2 q1 q2 ?_
  refine lw_alu C0 hK (len := 1) rfl rfl ?_
  refine lw_goto C0 hK (off := 987) rfl ?_
  exact h hp2 hG2 hR2
theorem lk_14 (C0 : lw_At p s m meth c b L xs) (hK : va_K D nm_cl (px_tys nm_T dA) s) (hl : nm_lvk lv i) (hi : i + 6 ≤ L) (hL : L ≤ 3072) (hG : ab_h nm_GH hp) (hR : nm_R hp) (q1 : nc ≤ nm_rc) (q2 : ns ≤ nm_rs) (h : ∀ hp' : px_H, ab_h nm_GH hp' → nm_R hp' → nm_G p l e s m below meth c b D dA (1686, lv, [], hp', nc, ns)) : nm_G p l e s m below meth c b D dA (702, lv, [], hp, nc, ns) := by
  obtain ⟨v0, v1, hp1, hp2, c1, hG1, c2, hG2, hv, hR2⟩ := xp_judge (a0 := (((xs (i + 1)).toInt64) <<< (((Int8.ofInt 32).toInt32).toInt64 &&& 63)) ||| (((xs (i + 2)).toInt64) &&& (Int64.ofInt 4294967295))) (a1 := xs (i + 3)) hG hR
  refine lw_aload C0 hK (j := 1) (a := 0) rfl hl.2.1 ?_
  refine lw_sc C0 hK (z := 1) 1 rfl rfl rfl rfl rfl rfl hl (by omega) hL ?_
  refine lw_alu C0 hK (len := 1) rfl rfl ?_
  refine lw_alu C0 hK (len := 2) rfl rfl ?_
  refine lw_alu C0 hK (len := 1) rfl rfl ?_
  refine lw_sc C0 hK (z := 2) 2 rfl rfl rfl rfl rfl rfl hl (by omega) hL ?_
  refine lw_alu C0 hK (len := 1) rfl rfl ?_
  refine lw_ldc2 C0 hK (v := 4294967295) rfl rfl ?_
  refine lw_alu C0 hK (len := 1) rfl rfl ?_
  refine lw_alu C0 hK (len := 1) rfl rfl ?_
  refine lw_sc C0 hK (z := 3) 3 rfl rfl rfl rfl rfl rfl hl (by omega) hL ?_
  refine lw_invC C0 hK (mi := mi_X_judge) (n := 2) (a := 0) (N := mm_X_judge) rfl rfl rfl rfl rfl (Nat.le_of_ble_eq_true rfl) (Nat.le_of_ble_eq_true rfl) rfl rfl hG c1 q1 q2 ?_
  refine lw_alu C0 hK (len := 1) rfl rfl ?_
  refine lw_aload C0 hK (j := 2) (a := 69) rfl hl.2.2.1 ?_
  refine lw_sc C0 hK (z := 1) 1 rfl rfl rfl rfl rfl rfl hl (by omega) hL ?_
  refine lw_alu C0 hK (len := 1) rfl rfl ?_
  refine lw_alu C0 hK (len := 2) rfl rfl ?_
  refine lw_alu C0 hK (len := 1) rfl rfl ?_
  refine lw_sc C0 hK (z := 2) 2 rfl rfl rfl rfl rfl rfl hl (by omega) hL ?_
  refine lw_alu C0 hK (len := 1) rfl rfl ?_
  refine lw_ldc2 C0 hK (v := 4294967295) rfl rfl ?_
  refine lw_alu C0 hK (len := 1) rfl rfl ?_
  refine lw_alu C0 hK (len := 1) rfl rfl ?_
  refine lw_sc C0 hK (z := 3) 3 rfl rfl rfl rfl rfl rfl hl (by omega) hL ?_
  refine lw_invC C0 hK (mi := mi_M_judge) (n := 2) (a := 69) (N := mm_M_judge) rfl rfl rfl rfl rfl (Nat.le_of_ble_eq_true rfl) (Nat.le_of_ble_eq_true rfl) rfl rfl hG1 c2 q1 q2 ?_
  refine lw_alu C0 hK (len := 1) rfl rfl ?_
  refine lw_goto C0 hK (off := 918) rfl ?_
  exact h hp2 hG2 hR2
theorem lk_15 (C0 : lw_At p s m meth c b L xs) (hK : va_K D nm_cl (px_tys nm_T dA) s) (hl : nm_lvk lv i) (hi : i + 6 ≤ L) (hL : L ≤ 3072) (hG : ab_h nm_GH hp) (hR : nm_R hp) (q1 : nc ≤ nm_rc) (q2 : ns ≤ nm_rs) (h : ∀ hp' : px_H, ab_h nm_GH hp' → nm_R hp' → nm_G p l e s m below meth c b D dA (1686, lv, [], hp', nc, ns)) : nm_G p l e s m below meth c b D dA (771, lv, [], hp, nc, ns) := by
  obtain ⟨v0, v1, hp1, hp2, c1, hG1, c2, hG2, hv, hR2⟩ := xp_hold (a0 := (((xs (i + 1)).toInt64) <<< (((Int8.ofInt 32).toInt32).toInt64 &&& 63)) ||| (((xs (i + 2)).toInt64) &&& (Int64.ofInt 4294967295))) (a1 := xs (i + 3)) hG hR
  refine lw_aload C0 hK (j := 1) (a := 0) rfl hl.2.1 ?_
  refine lw_sc C0 hK (z := 1) 1 rfl rfl rfl rfl rfl rfl hl (by omega) hL ?_
  refine lw_alu C0 hK (len := 1) rfl rfl ?_
  refine lw_alu C0 hK (len := 2) rfl rfl ?_
  refine lw_alu C0 hK (len := 1) rfl rfl ?_
  refine lw_sc C0 hK (z := 2) 2 rfl rfl rfl rfl rfl rfl hl (by omega) hL ?_
  refine lw_alu C0 hK (len := 1) rfl rfl ?_
  refine lw_ldc2 C0 hK (v := 4294967295) rfl rfl ?_
  refine lw_alu C0 hK (len := 1) rfl rfl ?_
  refine lw_alu C0 hK (len := 1) rfl rfl ?_
  refine lw_sc C0 hK (z := 3) 3 rfl rfl rfl rfl rfl rfl hl (by omega) hL ?_
  refine lw_invC C0 hK (mi := mi_X_hold) (n := 2) (a := 0) (N := mm_X_hold) rfl rfl rfl rfl rfl (Nat.le_of_ble_eq_true rfl) (Nat.le_of_ble_eq_true rfl) rfl rfl hG c1 q1 q2 ?_
  refine lw_alu C0 hK (len := 1) rfl rfl ?_
  refine lw_aload C0 hK (j := 2) (a := 69) rfl hl.2.2.1 ?_
  refine lw_sc C0 hK (z := 1) 1 rfl rfl rfl rfl rfl rfl hl (by omega) hL ?_
  refine lw_alu C0 hK (len := 1) rfl rfl ?_
  refine lw_alu C0 hK (len := 2) rfl rfl ?_
  refine lw_alu C0 hK (len := 1) rfl rfl ?_
  refine lw_sc C0 hK (z := 2) 2 rfl rfl rfl rfl rfl rfl hl (by omega) hL ?_
  refine lw_alu C0 hK (len := 1) rfl rfl ?_
  refine lw_ldc2 C0 hK (v := 4294967295) rfl rfl ?_
  refine lw_alu C0 hK (len := 1) rfl rfl ?_
  refine lw_alu C0 hK (len := 1) rfl rfl ?_
  refine lw_sc C0 hK (z := 3) 3 rfl rfl rfl rfl rfl rfl hl (by omega) hL ?_
  refine lw_invC C0 hK (mi := mi_M_hold) (n := 2) (a := 69) (N := mm_M_hold) rfl rfl rfl rfl rfl (Nat.le_of_ble_eq_true rfl) (Nat.le_of_ble_eq_true rfl) rfl rfl hG1 c2 q1 q2 ?_
  refine lw_alu C0 hK (len := 1) rfl rfl ?_
  refine lw_goto C0 hK (off := 849) rfl ?_
  exact h hp2 hG2 hR2
theorem lk_16 (C0 : lw_At p s m meth c b L xs) (hK : va_K D nm_cl (px_tys nm_T dA) s) (hl : nm_lvk lv i) (hi : i + 6 ≤ L) (hL : L ≤ 3072) (hG : ab_h nm_GH hp) (hR : nm_R hp) (q1 : nc ≤ nm_rc) (q2 : ns ≤ nm_rs) (h : ∀ hp' : px_H, ab_h nm_GH hp' → nm_R hp' → nm_G p l e s m below meth c b D dA (1686, lv, [], hp', nc, ns)) : nm_G p l e s m below meth c b D dA (840, lv, [], hp, nc, ns) := by
  obtain ⟨v0, v1, hp1, hp2, c1, hG1, c2, hG2, hv, hR2⟩ := xp_begin hG hR
  refine lw_aload C0 hK (j := 1) (a := 0) rfl hl.2.1 ?_
  refine lw_invC C0 hK (mi := mi_X_begin) (n := 0) (a := 0) (N := mm_X_begin) rfl rfl rfl rfl rfl (Nat.le_of_ble_eq_true rfl) (Nat.le_of_ble_eq_true rfl) rfl rfl hG c1 q1 q2 ?_
  refine lw_alu C0 hK (len := 1) rfl rfl ?_
  refine lw_aload C0 hK (j := 2) (a := 69) rfl hl.2.2.1 ?_
  refine lw_invC C0 hK (mi := mi_M_begin) (n := 0) (a := 69) (N := mm_M_begin) rfl rfl rfl rfl rfl (Nat.le_of_ble_eq_true rfl) (Nat.le_of_ble_eq_true rfl) rfl rfl hG1 c2 q1 q2 ?_
  refine lw_alu C0 hK (len := 1) rfl rfl ?_
  refine lw_goto C0 hK (off := 836) rfl ?_
  exact h hp2 hG2 hR2
theorem lk_17 (C0 : lw_At p s m meth c b L xs) (hK : va_K D nm_cl (px_tys nm_T dA) s) (hl : nm_lvk lv i) (hi : i + 6 ≤ L) (hL : L ≤ 3072) (hG : ab_h nm_GH hp) (hR : nm_R hp) (q1 : nc ≤ nm_rc) (q2 : ns ≤ nm_rs) (h : ∀ hp' : px_H, ab_h nm_GH hp' → nm_R hp' → nm_G p l e s m below meth c b D dA (1686, lv, [], hp', nc, ns)) : nm_G p l e s m below meth c b D dA (853, lv, [], hp, nc, ns) := by
  obtain ⟨v0, v1, hp1, hp2, c1, hG1, c2, hG2, hv, hR2⟩ := xp_bag (a0 := xs (i + 1)) (a1 := xs (i + 2)) hG hR
  refine lw_aload C0 hK (j := 1) (a := 0) rfl hl.2.1 ?_
  refine lw_sc C0 hK (z := 1) 1 rfl rfl rfl rfl rfl rfl hl (by omega) hL ?_
  refine lw_sc C0 hK (z := 2) 2 rfl rfl rfl rfl rfl rfl hl (by omega) hL ?_
  refine lw_invC C0 hK (mi := mi_X_bag) (n := 2) (a := 0) (N := mm_X_bag) rfl rfl rfl rfl rfl (Nat.le_of_ble_eq_true rfl) (Nat.le_of_ble_eq_true rfl) rfl rfl hG c1 q1 q2 ?_
  refine lw_alu C0 hK (len := 1) rfl rfl ?_
  refine lw_aload C0 hK (j := 2) (a := 69) rfl hl.2.2.1 ?_
  refine lw_sc C0 hK (z := 1) 1 rfl rfl rfl rfl rfl rfl hl (by omega) hL ?_
  refine lw_sc C0 hK (z := 2) 2 rfl rfl rfl rfl rfl rfl hl (by omega) hL ?_
  refine lw_invC C0 hK (mi := mi_M_bag) (n := 2) (a := 69) (N := mm_M_bag) rfl rfl rfl rfl rfl (Nat.le_of_ble_eq_true rfl) (Nat.le_of_ble_eq_true rfl) rfl rfl hG1 c2 q1 q2 ?_
  refine lw_alu C0 hK (len := 1) rfl rfl ?_
  refine lw_goto C0 hK (off := 799) rfl ?_
  exact h hp2 hG2 hR2
theorem lk_18 (C0 : lw_At p s m meth c b L xs) (hK : va_K D nm_cl (px_tys nm_T dA) s) (hl : nm_lvk lv i) (hi : i + 6 ≤ L) (hL : L ≤ 3072) (hG : ab_h nm_GH hp) (hR : nm_R hp) (q1 : nc ≤ nm_rc) (q2 : ns ≤ nm_rs) (h : ∀ hp' : px_H, ab_h nm_GH hp' → nm_R hp' → nm_G p l e s m below meth c b D dA (1686, lv, [], hp', nc, ns)) : nm_G p l e s m below meth c b D dA (890, lv, [], hp, nc, ns) := by
  obtain ⟨v0, v1, hp1, hp2, c1, hG1, c2, hG2, hv, hR2⟩ := xp_sat (a0 := xs (i + 1)) hG hR
  refine lw_aload C0 hK (j := 1) (a := 0) rfl hl.2.1 ?_
  refine lw_sc C0 hK (z := 1) 1 rfl rfl rfl rfl rfl rfl hl (by omega) hL ?_
  refine lw_invC C0 hK (mi := mi_X_sat) (n := 1) (a := 0) (N := mm_X_sat) rfl rfl rfl rfl rfl (Nat.le_of_ble_eq_true rfl) (Nat.le_of_ble_eq_true rfl) rfl rfl hG c1 q1 q2 ?_
  refine lw_alu C0 hK (len := 1) rfl rfl ?_
  refine lw_aload C0 hK (j := 2) (a := 69) rfl hl.2.2.1 ?_
  refine lw_sc C0 hK (z := 1) 1 rfl rfl rfl rfl rfl rfl hl (by omega) hL ?_
  refine lw_invC C0 hK (mi := mi_M_sat) (n := 1) (a := 69) (N := mm_M_sat) rfl rfl rfl rfl rfl (Nat.le_of_ble_eq_true rfl) (Nat.le_of_ble_eq_true rfl) rfl rfl hG1 c2 q1 q2 ?_
  refine lw_alu C0 hK (len := 1) rfl rfl ?_
  refine lw_goto C0 hK (off := 774) rfl ?_
  exact h hp2 hG2 hR2
theorem lk_19 (C0 : lw_At p s m meth c b L xs) (hK : va_K D nm_cl (px_tys nm_T dA) s) (hl : nm_lvk lv i) (hi : i + 6 ≤ L) (hL : L ≤ 3072) (hG : ab_h nm_GH hp) (hR : nm_R hp) (q1 : nc ≤ nm_rc) (q2 : ns ≤ nm_rs) (h : ∀ hp' : px_H, ab_h nm_GH hp' → nm_R hp' → nm_G p l e s m below meth c b D dA (1686, lv, [], hp', nc, ns)) : nm_G p l e s m below meth c b D dA (915, lv, [], hp, nc, ns) := by
  refine lw_aload C0 hK (j := 1) (a := 0) rfl hl.2.1 ?_
  refine lw_sc C0 hK (z := 1) 1 rfl rfl rfl rfl rfl rfl hl (by omega) hL ?_
  refine lw_sc C0 hK (z := 2) 2 rfl rfl rfl rfl rfl rfl hl (by omega) hL ?_
  refine lw_inv C0 hK kp_X_chance_0 rfl (n := 2) (a := 0) (N := mm_X_chance) rfl rfl rfl rfl rfl (Nat.le_of_ble_eq_true rfl) (Nat.le_of_ble_eq_true rfl) rfl rfl hG ⟨⟨rfl, List.mem_cons_self⟩, ⟨rfl, ab_i32 _⟩, ⟨rfl, ab_i32 _⟩, trivial⟩ q1 q2 (fun r0 hp1 o0 ho0 hG1 hr0 hf0 hw0 => ?_)
  have hR1 : nm_R hp1 := nm_R_fr hG hG1 hw0 (show nm_Rf kc_X_chance_0.2.2.2.2.1 kc_X_chance_0.2.2.2.2.2 = true from by decide +kernel) hR
  obtain ⟨v0, rfl⟩ := nm_rI rfl ho0 hr0
  refine lw_alu C0 hK (len := 1) rfl rfl ?_
  refine lw_aload C0 hK (j := 2) (a := 69) rfl hl.2.2.1 ?_
  refine lw_sc C0 hK (z := 1) 1 rfl rfl rfl rfl rfl rfl hl (by omega) hL ?_
  refine lw_sc C0 hK (z := 2) 2 rfl rfl rfl rfl rfl rfl hl (by omega) hL ?_
  refine lw_inv C0 hK kp_M_chance_0 rfl (n := 2) (a := 69) (N := mm_M_chance) rfl rfl rfl rfl rfl (Nat.le_of_ble_eq_true rfl) (Nat.le_of_ble_eq_true rfl) rfl rfl hG1 ⟨⟨rfl, List.mem_cons_self⟩, ⟨rfl, ab_i32 _⟩, ⟨rfl, ab_i32 _⟩, trivial⟩ q1 q2 (fun r1 hp2 o1 ho1 hG2 hr1 hf1 hw1 => ?_)
  have hR2 : nm_R hp2 := nm_R_fr hG1 hG2 hw1 (show nm_Rf kc_M_chance_0.2.2.2.2.1 kc_M_chance_0.2.2.2.2.2 = true from by decide +kernel) hR1
  obtain ⟨v1, rfl⟩ := nm_rI rfl ho1 hr1
  refine lw_alu C0 hK (len := 1) rfl rfl ?_
  refine lw_goto C0 hK (off := 737) rfl ?_
  exact h hp2 hG2 hR2
theorem lk_20 (C0 : lw_At p s m meth c b L xs) (hK : va_K D nm_cl (px_tys nm_T dA) s) (hl : nm_lvk lv i) (hi : i + 6 ≤ L) (hL : L ≤ 3072) (hG : ab_h nm_GH hp) (hR : nm_R hp) (q1 : nc ≤ nm_rc) (q2 : ns ≤ nm_rs) (h : ∀ hp' : px_H, ab_h nm_GH hp' → nm_R hp' → nm_G p l e s m below meth c b D dA (1686, lv, [], hp', nc, ns)) : nm_G p l e s m below meth c b D dA (952, lv, [], hp, nc, ns) := by
  refine lw_aload C0 hK (j := 1) (a := 0) rfl hl.2.1 ?_
  refine lw_sc C0 hK (z := 1) 1 rfl rfl rfl rfl rfl rfl hl (by omega) hL ?_
  refine lw_inv C0 hK kp_X_each_0 rfl (n := 1) (a := 0) (N := mm_X_each) rfl rfl rfl rfl rfl (Nat.le_of_ble_eq_true rfl) (Nat.le_of_ble_eq_true rfl) rfl rfl hG ⟨⟨rfl, List.mem_cons_self⟩, ⟨rfl, ab_i32 _⟩, trivial⟩ q1 q2 (fun r0 hp1 o0 ho0 hG1 hr0 hf0 hw0 => ?_)
  have hR1 : nm_R hp1 := nm_R_fr hG hG1 hw0 (show nm_Rf kc_X_each_0.2.2.2.2.1 kc_X_each_0.2.2.2.2.2 = true from by decide +kernel) hR
  obtain ⟨v0, rfl⟩ := nm_rI rfl ho0 hr0
  refine lw_alu C0 hK (len := 1) rfl rfl ?_
  refine lw_aload C0 hK (j := 2) (a := 69) rfl hl.2.2.1 ?_
  refine lw_sc C0 hK (z := 1) 1 rfl rfl rfl rfl rfl rfl hl (by omega) hL ?_
  refine lw_inv C0 hK kp_M_each_0 rfl (n := 1) (a := 69) (N := mm_M_each) rfl rfl rfl rfl rfl (Nat.le_of_ble_eq_true rfl) (Nat.le_of_ble_eq_true rfl) rfl rfl hG1 ⟨⟨rfl, List.mem_cons_self⟩, ⟨rfl, ab_i32 _⟩, trivial⟩ q1 q2 (fun r1 hp2 o1 ho1 hG2 hr1 hf1 hw1 => ?_)
  have hR2 : nm_R hp2 := nm_R_fr hG1 hG2 hw1 (show nm_Rf kc_M_each_0.2.2.2.2.1 kc_M_each_0.2.2.2.2.2 = true from by decide +kernel) hR1
  obtain ⟨v1, rfl⟩ := nm_rI rfl ho1 hr1
  refine lw_alu C0 hK (len := 1) rfl rfl ?_
  refine lw_goto C0 hK (off := 712) rfl ?_
  exact h hp2 hG2 hR2
theorem lk_21 (C0 : lw_At p s m meth c b L xs) (hK : va_K D nm_cl (px_tys nm_T dA) s) (hl : nm_lvk lv i) (hi : i + 6 ≤ L) (hL : L ≤ 3072) (hG : ab_h nm_GH hp) (hR : nm_R hp) (q1 : nc ≤ nm_rc) (q2 : ns ≤ nm_rs) (h : ∀ hp' : px_H, ab_h nm_GH hp' → nm_R hp' → nm_G p l e s m below meth c b D dA (1686, lv, [], hp', nc, ns)) : nm_G p l e s m below meth c b D dA (977, lv, [], hp, nc, ns) := by
  refine lw_aload C0 hK (j := 1) (a := 0) rfl hl.2.1 ?_
  refine lw_sc C0 hK (z := 1) 1 rfl rfl rfl rfl rfl rfl hl (by omega) hL ?_
  refine lw_inv C0 hK kp_X_ever_0 rfl (n := 1) (a := 0) (N := mm_X_ever) rfl rfl rfl rfl rfl (Nat.le_of_ble_eq_true rfl) (Nat.le_of_ble_eq_true rfl) rfl rfl hG ⟨⟨rfl, List.mem_cons_self⟩, ⟨rfl, ab_i32 _⟩, trivial⟩ q1 q2 (fun r0 hp1 o0 ho0 hG1 hr0 hf0 hw0 => ?_)
  have hR1 : nm_R hp1 := nm_R_fr hG hG1 hw0 (show nm_Rf kc_X_ever_0.2.2.2.2.1 kc_X_ever_0.2.2.2.2.2 = true from by decide +kernel) hR
  obtain ⟨v0, rfl⟩ := nm_rI rfl ho0 hr0
  refine lw_alu C0 hK (len := 1) rfl rfl ?_
  refine lw_aload C0 hK (j := 2) (a := 69) rfl hl.2.2.1 ?_
  refine lw_sc C0 hK (z := 1) 1 rfl rfl rfl rfl rfl rfl hl (by omega) hL ?_
  refine lw_inv C0 hK kp_M_ever_0 rfl (n := 1) (a := 69) (N := mm_M_ever) rfl rfl rfl rfl rfl (Nat.le_of_ble_eq_true rfl) (Nat.le_of_ble_eq_true rfl) rfl rfl hG1 ⟨⟨rfl, List.mem_cons_self⟩, ⟨rfl, ab_i32 _⟩, trivial⟩ q1 q2 (fun r1 hp2 o1 ho1 hG2 hr1 hf1 hw1 => ?_)
  have hR2 : nm_R hp2 := nm_R_fr hG1 hG2 hw1 (show nm_Rf kc_M_ever_0.2.2.2.2.1 kc_M_ever_0.2.2.2.2.2 = true from by decide +kernel) hR1
  obtain ⟨v1, rfl⟩ := nm_rI rfl ho1 hr1
  refine lw_alu C0 hK (len := 1) rfl rfl ?_
  refine lw_goto C0 hK (off := 687) rfl ?_
  exact h hp2 hG2 hR2
end nm_lk
