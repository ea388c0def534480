/-! the law's walk -/
section nm_lw
variable {p : Program} {l : Launch} {e : Env} {s : State} {m : MethodId} {below : List Frame} {meth : Method} {c : Code} {b L : Nat} {xs : Nat → Int32} {D : va_G} {dA : Nat → ClassId}
variable {i nc ns : Nat} {lv : List (Nat × Value)} {hp : px_H}
set_option maxRecDepth 100000
def nm_I (hp : px_H) : Prop := ab_h nm_GH hp ∧ nm_R hp
/-- after row -/
theorem lk_42t {v : Int32} (C0 : lw_At p s m meth c b L xs) (hK : va_K D nm_cl (px_tys nm_T dA) s) (hl : nm_lvk lv i) (hi : i + 6 ≤ L) (hL : L ≤ 3072) (hG : nm_I hp) (q1 : nc ≤ nm_rc) (q2 : ns ≤ nm_rs) (h : ∀ (lv' : List (Nat × Value)) (hp' : px_H), nm_lvk lv' i → nm_I hp' → nm_G p l e s m below meth c b D dA (1686, lv', [], hp', nc, ns)) : nm_G p l e s m below meth c b D dA (nm_rpc + 3, lv, [.int v], hp, nc, ns) := by
  refine nm_G_step C0 hK 0 (S' := (nm_rpc + 5, px_st1 lv 5 (.int v), [], hp, nc, ns)) rfl ?_
  have hl1 : nm_lvk (px_st1 lv 5 (.int v)) i := nm_st_find hl (by decide)
  generalize px_st1 lv 5 (.int v) = lv1 at hl1 ⊢
  refine lw_aload C0 hK (j := 2) (a := 69) rfl hl1.2.2.1 ?_
  refine lw_sc C0 hK (z := 1) 1 rfl rfl rfl rfl rfl rfl hl1 (by omega) hL ?_
  refine lw_inv C0 hK kp_M_row_0 rfl (n := 1) (a := 69) (N := mm_M_row) rfl rfl rfl rfl rfl (Nat.le_of_ble_eq_true rfl) (Nat.le_of_ble_eq_true rfl) rfl rfl hG.1 ⟨⟨rfl, List.mem_cons_self⟩, ⟨rfl, ab_i32 _⟩, trivial⟩ q1 q2 (fun r0 hp1 o0 ho0 hG1 hr0 hf0 hw0 => ?_)
  obtain ⟨v0, rfl⟩ := nm_rJ rfl ho0 hr0
  refine nm_G_step C0 hK 0 (S' := (nm_rpc + 17, px_st2 lv1 6 (.long v0), [], hp1, nc, ns)) rfl ?_
  refine lw_goto C0 hK (off := 3) rfl ?_
  exact h _ hp1 (nm_st_find2 hl1 (by decide)) ⟨hG1, nm_R_fr hG.1 hG1 hw0 (show nm_Rf kc_M_row_0.2.2.2.2.1 kc_M_row_0.2.2.2.2.2 = true from by decide +kernel) hG.2⟩
theorem lk_42 (hl0 : l.stackTraces = false) (C0 : lw_At p s m meth c b L xs) (hK : va_K D nm_cl (px_tys nm_T dA) s) (hl : nm_lvk lv i) (hi : i + 6 ≤ L) (hL : L ≤ 3072) (hG : nm_I hp) (q1 : nc + 1 ≤ nm_rc) (q2 : ns + 6 ≤ nm_rs) (h : ∀ (lv' : List (Nat × Value)) (hp' : px_H) (nc' ns' : Nat), nm_lvk lv' i → nm_I hp' → nc' ≤ nc + 1 → ns' ≤ ns + 6 → nm_G p l e s m below meth c b D dA (1686, lv', [], hp', nc', ns')) : nm_G p l e s m below meth c b D dA (1658, lv, [], hp, nc, ns) := by
  refine lw_aload C0 hK (j := 1) (a := 0) rfl hl.2.1 ?_
  refine lw_sc C0 hK (z := 1) 1 rfl rfl rfl rfl rfl rfl hl (by omega) hL ?_
  refine lw_aload C0 hK (j := 3) (a := 105) rfl hl.2.2.2.1 ?_
  obtain ⟨fs, hx0, -, -⟩ := ac_obj hG.1 (c := 0) rfl
  have h9 := ac_refF hG.1 (ci := 8) (k := 9) (c := 0) (d := 48) rfl hx0
  obtain ⟨fs2, h48, hl48, hf48⟩ := ac_obj hG.1 (c := 48) rfl
  have hr48 := ac_refF hG.1 (ci := 2) (k := 0) (c := 48) (d := 49) rfl h48
  obtain ⟨sz, rfl, hs1⟩ : ∃ sz : Int32, fs2 = [.ref 49, .int sz] ∧ sz.toInt ≤ 13 := by
    match fs2, hl48, hr48, hf48 with
    | [u, w], _, hr, hf =>
      cases hr
      obtain ⟨sz, rfl, hs⟩ := ab_f0 (hf 1 _ w rfl rfl)
      exact ⟨sz, rfl, hs.2⟩
  obtain ⟨f49, h49, -⟩ := ac_arrL hG.1 (c := 49) (t := 5) (n := 13) (Nat.le_of_ble_eq_true rfl) rfl
  obtain ⟨g5, h105, -⟩ := ac_arrL hG.1 (c := 105) (t := 62) (n := 1) (Nat.le_of_ble_eq_true rfl) rfl
  by_cases hr : 0 ≤ (xs (i + 1)).toInt ∧ (xs (i + 1)).toInt < sz.toInt
  · refine nm_row_in C0 hK (nm_xin hx0 h9 h48 h49 rfl hr.1 hr.2 (by omega)) hx0 h105 rfl (by omega) (by omega) ?_
    exact lk_42t C0 hK hl hi hL ⟨ac_h_arr hG.1 h105 rfl ⟨rfl, rfl, fun j _ => ⟨rfl, ab_i64 _⟩⟩, nm_R_arr h105 hG.2⟩ (by omega) (by omega) (fun lv' hp' a1 a2 => h lv' hp' _ _ a1 a2 (by omega) (by omega))
  · refine nm_row_throw hl0 C0 hK hx0 h9 h48 (by omega) q1 q2 ?_
    exact lk_42t C0 hK hl hi hL hG q1 q2 (fun lv' hp' a1 a2 => h lv' hp' _ _ a1 a2 (by omega) (by omega))
set_option maxHeartbeats 4000000 in
theorem lk_case (hl0 : l.stackTraces = false) (C0 : lw_At p s m meth c b L xs) (hK : va_K D nm_cl (px_tys nm_T dA) s) (hl : nm_lvk lv i) (hi : i + 6 ≤ L) (hL : L ≤ 3072) (hG : nm_I hp) (q1 : nc + 1 ≤ nm_rc) (q2 : ns + 6 ≤ nm_rs) (h : ∀ (lv' : List (Nat × Value)) (hp' : px_H) (nc' ns' : Nat), nm_lvk lv' i → nm_I hp' → nc' ≤ nc + 1 → ns' ≤ ns + 6 → nm_G p l e s m below meth c b D dA (1686, lv', [], hp', nc', ns')) (k : Nat) (hk : k ≤ 42) : nm_G p l e s m below meth c b D dA (nm_pcs.getD k 0, lv, [], hp, nc, ns) := by
  have h2 : ∀ hp' : px_H, ab_h nm_GH hp' → nm_R hp' → nm_G p l e s m below meth c b D dA (1686, lv, [], hp', nc, ns) := fun hp' a a' => h lv hp' nc ns hl ⟨a, a'⟩ (by omega) (by omega)
  have w1 : nc ≤ nm_rc := by omega
  have w2 : ns ≤ nm_rs := by omega
  match k, hk with
  | 0, _ => exact lk_0 C0 hK hl hi hL hG.1 hG.2 w1 w2 h2
  | 1, _ => exact lk_1 C0 hK hl hi hL hG.1 hG.2 w1 w2 h2
  | 2, _ => exact lk_2 C0 hK hl hi hL hG.1 hG.2 w1 w2 h2
  | 3, _ => exact lk_3 C0 hK hl hi hL hG.1 hG.2 w1 w2 h2
  | 4, _ => exact lk_4 C0 hK hl hi hL hG.1 hG.2 w1 w2 h2
  | 5, _ => exact lk_5 C0 hK hl hi hL hG.1 hG.2 w1 w2 h2
  | 6, _ => exact lk_6 C0 hK hl hi hL hG.1 hG.2 w1 w2 h2
  | 7, _ => exact lk_7 C0 hK hl hi hL hG.1 hG.2 w1 w2 h2
  | 8, _ => exact lk_8 C0 hK hl hi hL hG.1 hG.2 w1 w2 h2
  | 9, _ => exact lk_9 C0 hK hl hi hL hG.1 hG.2 w1 w2 h2
  | 10, _ => exact lk_10 C0 hK hl hi hL hG.1 hG.2 w1 w2 h2
  | 11, _ => exact lk_11 C0 hK hl hi hL hG.1 hG.2 w1 w2 h2
  | 12, _ => exact lk_12 C0 hK hl hi hL hG.1 hG.2 w1 w2 h2
  | 13, _ => exact lk_13 C0 hK hl hi hL hG.1 hG.2 w1 w2 h2
  | 14, _ => exact lk_14 C0 hK hl hi hL hG.1 hG.2 w1 w2 h2
  | 15, _ => exact lk_15 C0 hK hl hi hL hG.1 hG.2 w1 w2 h2
  | 16, _ => exact lk_16 C0 hK hl hi hL hG.1 hG.2 w1 w2 h2
  | 17, _ => exact lk_17 C0 hK hl hi hL hG.1 hG.2 w1 w2 h2
  | 18, _ => exact lk_18 C0 hK hl hi hL hG.1 hG.2 w1 w2 h2
  | 19, _ => exact lk_19 C0 hK hl hi hL hG.1 hG.2 w1 w2 h2
  | 20, _ => exact lk_20 C0 hK hl hi hL hG.1 hG.2 w1 w2 h2
  | 21, _ => exact lk_21 C0 hK hl hi hL hG.1 hG.2 w1 w2 h2
  | 22, _ => exact lk_22 C0 hK hl hi hL hG.1 hG.2 w1 w2 h2
  | 23, _ => exact lk_23 C0 hK hl hi hL hG.1 hG.2 w1 w2 h2
  | 24, _ => exact lk_24 C0 hK hl hi hL hG.1 hG.2 w1 w2 h2
  | 25, _ => exact lk_25 C0 hK hl hi hL hG.1 hG.2 w1 w2 h2
  | 26, _ => exact lk_26 C0 hK hl hi hL hG.1 hG.2 w1 w2 h2
  | 27, _ => exact lk_27 C0 hK hl hi hL hG.1 hG.2 w1 w2 h2
  | 28, _ => exact lk_28 C0 hK hl hi hL hG.1 hG.2 w1 w2 h2
  | 29, _ => exact lk_29 C0 hK hl hi hL hG.1 hG.2 w1 w2 h2
  | 30, _ => exact lk_30 C0 hK hl hi hL hG.1 hG.2 w1 w2 h2
  | 31, _ => exact lk_31 C0 hK hl hi hL hG.1 hG.2 w1 w2 h2
  | 32, _ => exact lk_32 C0 hK hl hi hL hG.1 hG.2 w1 w2 h2
  | 33, _ => exact lk_33 C0 hK hl hi hL hG.1 hG.2 w1 w2 h2
  | 34, _ => exact lk_34 C0 hK hl hi hL hG.1 hG.2 w1 w2 h2
  | 35, _ => exact lk_35 C0 hK hl hi hL hG.1 hG.2 w1 w2 h2
  | 36, _ => exact lk_36 C0 hK hl hi hL hG.1 hG.2 w1 w2 h2
  | 37, _ => exact lk_37 C0 hK hl hi hL hG.1 hG.2 w1 w2 h2
  | 38, _ => exact lk_38 C0 hK hl hi hL hG.1 hG.2 w1 w2 h2
  | 39, _ => exact lk_39 C0 hK hl hi hL hG.1 hG.2 w1 w2 h2
  | 40, _ => exact lk_40 C0 hK hl hi hL hG.1 hG.2 w1 w2 h2
  | 41, _ => exact lk_41 C0 hK hl hi hL hG.1 hG.2 w1 w2 h2
  | 42, _ => exact lk_42 hl0 C0 hK hl hi hL hG q1 q2 h
  | k + 43, hk => omega
theorem lk_offs : ∀ k, k < 43 → ∃ (len : Nat) (dflt lo hi : Int) (offs : Array Int), px_find 40 (px_cd nm_law) = some (len, .tableswitch dflt lo hi offs) ∧ lo = 0 ∧ hi = 42 ∧ px_tgt 40 dflt = 1686 ∧ ∃ off, offs[k]? = some off ∧ px_tgt 40 off = nm_pcs.getD k 0 := by
  intro k hk
  refine ⟨_, _, _, _, _, rfl, rfl, rfl, rfl, ?_⟩
  match k, hk with
  | 0, _ => exact ⟨_, rfl, rfl⟩
  | 1, _ => exact ⟨_, rfl, rfl⟩
  | 2, _ => exact ⟨_, rfl, rfl⟩
  | 3, _ => exact ⟨_, rfl, rfl⟩
  | 4, _ => exact ⟨_, rfl, rfl⟩
  | 5, _ => exact ⟨_, rfl, rfl⟩
  | 6, _ => exact ⟨_, rfl, rfl⟩
  | 7, _ => exact ⟨_, rfl, rfl⟩
  | 8, _ => exact ⟨_, rfl, rfl⟩
  | 9, _ => exact ⟨_, rfl, rfl⟩
  | 10, _ => exact ⟨_, rfl, rfl⟩
  | 11, _ => exact ⟨_, rfl, rfl⟩
  | 12, _ => exact ⟨_, rfl, rfl⟩
  | 13, _ => exact ⟨_, rfl, rfl⟩
  | 14, _ => exact ⟨_, rfl, rfl⟩
  | 15, _ => exact ⟨_, rfl, rfl⟩
  | 16, _ => exact ⟨_, rfl, rfl⟩
  | 17, _ => exact ⟨_, rfl, rfl⟩
  | 18, _ => exact ⟨_, rfl, rfl⟩
  | 19, _ => exact ⟨_, rfl, rfl⟩
  | 20, _ => exact ⟨_, rfl, rfl⟩
  | 21, _ => exact ⟨_, rfl, rfl⟩
  | 22, _ => exact ⟨_, rfl, rfl⟩
  | 23, _ => exact ⟨_, rfl, rfl⟩
  | 24, _ => exact ⟨_, rfl, rfl⟩
  | 25, _ => exact ⟨_, rfl, rfl⟩
  | 26, _ => exact ⟨_, rfl, rfl⟩
  | 27, _ => exact ⟨_, rfl, rfl⟩
  | 28, _ => exact ⟨_, rfl, rfl⟩
  | 29, _ => exact ⟨_, rfl, rfl⟩
  | 30, _ => exact ⟨_, rfl, rfl⟩
  | 31, _ => exact ⟨_, rfl, rfl⟩
  | 32, _ => exact ⟨_, rfl, rfl⟩
  | 33, _ => exact ⟨_, rfl, rfl⟩
  | 34, _ => exact ⟨_, rfl, rfl⟩
  | 35, _ => exact ⟨_, rfl, rfl⟩
  | 36, _ => exact ⟨_, rfl, rfl⟩
  | 37, _ => exact ⟨_, rfl, rfl⟩
  | 38, _ => exact ⟨_, rfl, rfl⟩
  | 39, _ => exact ⟨_, rfl, rfl⟩
  | 40, _ => exact ⟨_, rfl, rfl⟩
  | 41, _ => exact ⟨_, rfl, rfl⟩
  | 42, _ => exact ⟨_, rfl, rfl⟩
  | k + 43, hk => omega
theorem lk_and63 (x : Int32) : 0 ≤ (x &&& (Int8.ofInt 63).toInt32).toInt ∧ (x &&& (Int8.ofInt 63).toInt32).toInt ≤ 63 := by
  have h := ab_and32 (Int8.ofInt 63).toInt32 x (by decide)
  rw [Int32.and_comm] at h
  have h2 : (Int8.ofInt 63).toInt32.toInt = 63 := by decide
  omega
theorem lk_m6 (L : Nat) (hL : L ≤ 3072) : (Int32.ofNat L - (Int8.ofInt 6).toInt32).toInt = (L : Int) - 6 := by
  rw [Int32.toInt_sub, nm_ofNat_toInt L (by omega), show (Int8.ofInt 6).toInt32.toInt = 6 from by decide]
  apply Int.bmod_eq_of_le <;> omega
set_option maxHeartbeats 4000000 in
theorem lk_walk (hl0 : l.stackTraces = false) (C0 : lw_At p s m meth c b L xs) (hK : va_K D nm_cl (px_tys nm_T dA) s) (hL : L ≤ 3072) : ∀ (d i nc ns : Nat) (lv : List (Nat × Value)) (hp : px_H), L < i + d → i ≤ L → nm_lvk lv i → nm_I hp → nc ≤ 106 + i → ns ≤ 103614 + i → nm_G p l e s m below meth c b D dA (23, lv, [], hp, nc, ns) := by
  intro d
  induction d with
  | zero => intro i nc ns lv hp h1 h2; omega
  | succ d ih =>
    intro i nc ns lv hp h1 h2 hl hG hc hs
    have r1 : 106 + 4000 ≤ nm_rc := Nat.le_of_ble_eq_true rfl
    have r2 : 103614 + 4000 ≤ nm_rs := Nat.le_of_ble_eq_true rfl
    refine nm_G_step C0 hK 0 (S' := (25, lv, [.int (Int32.ofNat i)], hp, nc, ns)) ?_ ?_
    · have f : px_find 23 (px_cd nm_law) = some (2, .iload 4) := rfl
      simp only [px_step, f, px_alu, hl.2.2.2.2]
    refine nm_G_step C0 hK 0 (S' := (26, lv, [.retAddr 0, .int (Int32.ofNat i)], hp, nc, ns)) ?_ ?_
    · have f : px_find 25 (px_cd nm_law) = some (1, .aload_n 0) := rfl
      simp only [px_step, f, px_alu, show px_find ((0 : Fin 4) : Nat) lv = some (.retAddr 0) from hl.1]
    refine nm_G_step C0 hK 0 (S' := (27, lv, [.int (Int32.ofNat L), .int (Int32.ofNat i)], hp, nc, ns)) rfl ?_
    refine nm_G_step C0 hK 0 (S' := (29, lv, [.int (Int8.ofInt 6).toInt32, .int (Int32.ofNat L), .int (Int32.ofNat i)], hp, nc, ns)) rfl ?_
    refine nm_G_step C0 hK 0 (S' := (30, lv, [.int (Int32.ofNat L - (Int8.ofInt 6).toInt32), .int (Int32.ofNat i)], hp, nc, ns)) rfl ?_
    have f30 : px_find 30 (px_cd nm_law) = some (3, .if_icmp .gt 1662) := rfl
    have e6 := lk_m6 L hL
    have ei := nm_ofNat_toInt i (by omega)
    by_cases hi : i + 6 ≤ L
    · have hcm : px_cmp .gt (Int32.ofNat i) (Int32.ofNat L - (Int8.ofInt 6).toInt32) = false := by
        simp only [px_cmp, decide_eq_false_iff_not, gt_iff_lt, Int32.lt_iff_toInt_lt, e6, ei]
        omega
      refine nm_G_step C0 hK 0 (S' := (33, lv, [], hp, nc, ns)) (by simp only [px_step, f30, px_alu, hcm]) ?_
      refine nm_G_step C0 hK 0 (S' := (34, lv, [.retAddr 0], hp, nc, ns)) ?_ ?_
      · have f : px_find 33 (px_cd nm_law) = some (1, .aload_n 0) := rfl
        simp only [px_step, f, px_alu, show px_find ((0 : Fin 4) : Nat) lv = some (.retAddr 0) from hl.1]
      refine nm_G_step C0 hK 0 (S' := (36, lv, [.int (Int32.ofNat i), .retAddr 0], hp, nc, ns)) ?_ ?_
      · have f : px_find 34 (px_cd nm_law) = some (2, .iload 4) := rfl
        simp only [px_step, f, px_alu, hl.2.2.2.2]
      refine nm_G_step C0 hK 0 (S' := (37, lv, [.int (xs i)], hp, nc, ns)) ?_ ?_
      · have f : px_find 36 (px_cd nm_law) = some (1, .iaload) := rfl
        have hin : px_inR (Int32.ofNat i) L = true := by
          simp only [px_inR, Bool.and_eq_true, decide_eq_true_eq, ei]
          omega
        simp only [px_step, f, px_alu, px_ald, hin, Option.map_some, nm_ofNat_clamp i (by omega)]
      refine nm_G_step C0 hK 0 (S' := (39, lv, [.int (Int8.ofInt 63).toInt32, .int (xs i)], hp, nc, ns)) rfl ?_
      refine nm_G_step C0 hK 0 (S' := (40, lv, [.int (xs i &&& (Int8.ofInt 63).toInt32)], hp, nc, ns)) rfl ?_
      have hend : ∀ (lv' : List (Nat × Value)) (hp' : px_H) (nc' ns' : Nat), nm_lvk lv' i → nm_I hp' → nc' ≤ nc + 1 → ns' ≤ ns + 6 → nm_G p l e s m below meth c b D dA (1686, lv', [], hp', nc', ns') := by
        intro lv' hp' nc' ns' a1 a2 a3 a4
        exact lw_end C0 hK (off := (-1666)) rfl rfl rfl a1 (fun lv2 hl2 => ih (i + 6) nc' ns' lv2 hp' (by omega) (by omega) hl2 a2 (by omega) (by omega))
      have hv := lk_and63 (xs i)
      generalize xs i &&& (Int8.ofInt 63).toInt32 = v at hv ⊢
      by_cases h42 : v.toInt ≤ 42
      · obtain ⟨k, hk⟩ : ∃ k : Nat, v.toInt = k := ⟨v.toInt.toNat, by omega⟩
        have hk2 : k ≤ 42 := by omega
        obtain ⟨len, dflt, lo, hi', offs, hf, rfl, rfl, -, off, ho, hp9⟩ := lk_offs k (by omega)
        refine nm_G_step C0 hK 0 (S' := (nm_pcs.getD k 0, lv, [], hp, nc, ns)) ?_ (lk_case hl0 C0 hK hl hi hL hG (by omega) (by omega) hend k hk2)
        have e1 : (decide (v.toInt < 0) || decide ((42 : Int) < v.toInt)) = false := by
          simp only [Bool.or_eq_false_iff, decide_eq_false_iff_not]
          omega
        have e2 : (v.toInt - 0).toNat = k := by omega
        simp only [px_step, hf, px_alu, e1, e2, ho, hp9]
      · obtain ⟨len, dflt, lo, hi', offs, hf, rfl, rfl, hd, -⟩ := lk_offs 0 (by omega)
        refine nm_G_step C0 hK 0 (S' := (1686, lv, [], hp, nc, ns)) ?_ (hend lv hp nc ns hl hG (by omega) (by omega))
        have e1 : (decide (v.toInt < 0) || decide ((42 : Int) < v.toInt)) = true := by
          simp only [Bool.or_eq_true, decide_eq_true_eq]
          omega
        simp only [px_step, hf, px_alu, e1, hd]
    · have hcm : px_cmp .gt (Int32.ofNat i) (Int32.ofNat L - (Int8.ofInt 6).toInt32) = true := by
        simp only [px_cmp, decide_eq_true_eq, gt_iff_lt, Int32.lt_iff_toInt_lt, e6, ei]
        omega
      refine nm_G_step C0 hK 0 (S' := (1692, lv, [], hp, nc, ns)) (by simp only [px_step, f30, px_alu, hcm]; rfl) ?_
      refine nm_G_step C0 hK 0 (S' := (1692 + 1, lv, [.int 1], hp, nc, ns)) rfl ?_
      exact nm_G_ret C0 (by decide +kernel) (by omega) (by omega)
end nm_lw
/-! the heap at the start -/
def lk_leL : List ab_F → List ab_F → Bool
  | [], [] => true
  | a :: r, b :: s => ab_le a b && lk_leL r s
  | _, _ => false
theorem lk_leL_ok : ∀ {as bs : List ab_F}, lk_leL as bs = true → as.length = bs.length ∧ ∀ (k : Nat) (b : ab_F), bs[k]? = some b → ∃ a, as[k]? = some a ∧ ab_le a b = true
  | [], [], _ => ⟨rfl, fun k b h => by simp at h⟩
  | a :: r, b :: s, h => by
    simp only [lk_leL, Bool.and_eq_true] at h
    obtain ⟨e, f⟩ := lk_leL_ok h.2
    refine ⟨by simp [e], fun k => ?_⟩
    cases k with
    | zero => intro b' hb; simp only [List.getElem?_cons_zero, Option.some.injEq] at hb; subst hb; exact ⟨a, rfl, h.1⟩
    | succ k => intro b' hb; rw [List.getElem?_cons_succ] at hb; exact f k b' hb
  | [], _ :: _, h => by simp [lk_leL] at h
  | _ :: _, [], h => by simp [lk_leL] at h
def lk_leC (a b : ab_C) : Bool := match a, b with
  | .inl (ci, fs), .inl (ci', fs') => Nat.beq ci ci' && lk_leL fs fs'
  | .inr (t, n, f), .inr (t', n', f') => Nat.beq t t' && (Nat.beq n n' && ab_le f f')
  | _, _ => false
theorem lk_leC_ok {a b : ab_C} {x : px_E} (h : lk_leC a b = true) (hx : ab_c a x) : ab_c b x := by
  unfold lk_leC at h
  split at h
  · rename_i ci fs ci' fs'
    simp only [Bool.and_eq_true] at h
    have := Nat.eq_of_beq_eq_true h.1
    subst this
    obtain ⟨e, f⟩ := lk_leL_ok h.2
    cases x with
    | inl q => exact absurd hx (by simp [ab_c])
    | inr q =>
      obtain ⟨c, vs⟩ := q
      obtain ⟨a1, a2, a3⟩ := hx
      refine ⟨a1, by omega, fun k g v hg hv => ?_⟩
      obtain ⟨g0, hg0, hle⟩ := f k g hg
      exact ab_le_ok hle (a3 k g0 v hg0 hv)
  · rename_i t n f t' n' f'
    simp only [Bool.and_eq_true] at h
    have := Nat.eq_of_beq_eq_true h.1
    subst this
    have := Nat.eq_of_beq_eq_true h.2.1
    subst this
    cases x with
    | inr q => exact absurd hx (by simp [ab_c])
    | inl q =>
      obtain ⟨c, k, cont⟩ := q
      obtain ⟨a1, a2, a3⟩ := hx
      refine ⟨a1, a2, fun j hj => ?_⟩
      have := a3 j hj
      rcases cont with g | g | g | g | g
      · exact ab_le_ok h.2.2 this
      · exact ab_le_ok h.2.2 this
      · exact this
      · exact this
      · obtain ⟨q, e1, e2⟩ := this
        exact ⟨q, e1, ab_le_ok h.2.2 e2⟩
  · cases h
def lk_leH : List ab_C → List ab_C → Bool
  | [], [] => true
  | a :: r, b :: s => lk_leC a b && lk_leH r s
  | _, _ => false
theorem lk_leH_ok : ∀ {as bs : List ab_C}, lk_leH as bs = true → as.length = bs.length ∧ ∀ (k : Nat) (b : ab_C), bs[k]? = some b → ∃ a, as[k]? = some a ∧ lk_leC a b = true
  | [], [], _ => ⟨rfl, fun k b h => by simp at h⟩
  | a :: r, b :: s, h => by
    simp only [lk_leH, Bool.and_eq_true] at h
    obtain ⟨e, f⟩ := lk_leH_ok h.2
    refine ⟨by simp [e], fun k => ?_⟩
    cases k with
    | zero => intro b' hb; simp only [List.getElem?_cons_zero, Option.some.injEq] at hb; subst hb; exact ⟨a, rfl, h.1⟩
    | succ k => intro b' hb; rw [List.getElem?_cons_succ] at hb; exact f k b' hb
  | [], _ :: _, h => by simp [lk_leH] at h
  | _ :: _, [], h => by simp [lk_leH] at h
set_option maxRecDepth 1000000 in
theorem lk_h0 : lk_leH nm_A1 nm_GH = true := by decide +kernel
theorem lk_H1 : ab_h nm_GH nm_H1 := by
  obtain ⟨e, f⟩ := lk_leH_ok lk_h0
  have h := ab_D_h nm_D nm_D_ok
  refine ⟨by rw [← e]; exact h.1, fun k b x hb hx => ?_⟩
  obtain ⟨a, ha, hle⟩ := f k b hb
  exact lk_leC_ok hle (h.2 k a x ha hx)
set_option maxRecDepth 1000000 in
theorem lk_R1 : nm_R nm_H1 := nm_R0
theorem whole_start {p : Program} {e : Env} {s : State} {m : MethodId} {below : List Frame} {meth : Method} {c : Code} (l : Launch) (hl0 : l.stackTraces = false) {b L : Nat} {xs : Nat → Int32} (hL : L ≤ 3072) (C0 : lw_At p s m meth c b L xs) : W p l e room_1 s m #[Value.ref b] below meth c s.heap [] 0 0 (lw_Z below #[Value.ref b] s) (entryFrame m ([Value.ref b] : List Value).toArray 8) := by
  refine nm_start l hL C0 (fun D dA hK => nm_G_steps C0 hK 400 13 _ _ (nm_c0 _) ?_)
  exact lk_walk hl0 C0 hK hL (L + 1) 0 106 103614 nm_lv nm_H1 (by omega) (by omega) ⟨rfl, rfl, rfl, rfl, rfl⟩ ⟨lk_H1, lk_R1⟩ (Nat.le_refl _) (Nat.le_refl _)
