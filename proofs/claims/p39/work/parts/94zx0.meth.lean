set_option maxRecDepth 100000
/-! X_isAhead -/
noncomputable def fn_X_isAhead (a1 : Int32) (hp : px_H) : Option (Int32) :=
  bif px_cmp .lt a1 (gI hp 19 2) then
    some (Int32.ofInt 0)
  else
    bif px_cmp .ge a1 (gI hp 1 8) then
      some (Int32.ofInt 0)
    else
      some (Int32.ofInt 1)
theorem fx_X_isAhead {a1 : Int32} {hp : px_H} {res : Int32} (hS : oS hp) (h : fn_X_isAhead a1 hp = some res) : px_C nm_T nm_P mi_X_isAhead [.ref 0, .int a1] hp (some (.int res)) hp ∧ oS hp := by
  unfold fn_X_isAhead at h
  refine py_C (M := mm_X_isAhead) rfl (Nat.le_of_ble_eq_true rfl) ?_
  show px_Y mm_X_isAhead 0 [(0, .ref 0), (1, .int a1)] [] hp _ _
  refine py_its (pc := 0) (pc1 := 2) (lv1 := [(0, .ref 0), (1, .int a1)]) (st1 := [.ref 0, .int a1]) 2 (fun _ _ _ _ => rfl) ?_
  refine py_g1 19 (pc := 2) (len := 3) (cs := [0]) rfl rfl rfl List.mem_cons_self hS ?_
  refine py_gI (pc := 5) (len := 3) (cs := [19]) rfl rfl rfl List.mem_cons_self hS ?_
  cases hb1 : px_cmp .lt a1 (gI hp 19 2) with
  | true =>
    have h := cd_t hb1 h
    refine py_ic (pc := 8) (len := 3) true rfl hb1 ?_
    refine py_its (pc := 26) (pc1 := 27) (lv1 := [(0, .ref 0), (1, .int a1)]) (st1 := [.int (Int32.ofInt 0)]) 1 (fun _ _ _ _ => rfl) ?_
    have h := Option.some.inj h
    subst h
    exact py_ir (pc := 27) (len := 1) (ty := .boolean) rfl rfl (by decide) hS
  | false =>
    have h := cd_f hb1 h
    refine py_ic (pc := 8) (len := 3) false rfl hb1 ?_
    refine py_its (pc := 11) (pc1 := 13) (lv1 := [(0, .ref 0), (1, .int a1)]) (st1 := [.ref 0, .int a1]) 2 (fun _ _ _ _ => rfl) ?_
    refine py_g1 1 (pc := 13) (len := 3) (cs := [0]) rfl rfl rfl List.mem_cons_self hS ?_
    refine py_gI (pc := 16) (len := 3) (cs := [1]) rfl rfl rfl List.mem_cons_self hS ?_
    cases hb2 : px_cmp .ge a1 (gI hp 1 8) with
    | true =>
      have h := cd_t hb2 h
      refine py_ic (pc := 19) (len := 3) true rfl hb2 ?_
      refine py_its (pc := 26) (pc1 := 27) (lv1 := [(0, .ref 0), (1, .int a1)]) (st1 := [.int (Int32.ofInt 0)]) 1 (fun _ _ _ _ => rfl) ?_
      have h := Option.some.inj h
      subst h
      exact py_ir (pc := 27) (len := 1) (ty := .boolean) rfl rfl (by decide) hS
    | false =>
      have h := cd_f hb2 h
      refine py_ic (pc := 19) (len := 3) false rfl hb2 ?_
      refine py_its (pc := 22) (pc1 := 27) (lv1 := [(0, .ref 0), (1, .int a1)]) (st1 := [.int (Int32.ofInt 1)]) 2 (fun _ _ _ _ => rfl) ?_
      have h := Option.some.inj h
      subst h
      exact py_ir (pc := 27) (len := 1) (ty := .boolean) rfl rfl (by decide) hS
/-! Table_hash -/
noncomputable def fn_Table_hash (a0 : Int64) (a1 : Int32) (hp : px_H) : Option (Int32) :=
  some ((sx_lus ((((a0 * (Int64.ofInt (-7046029254386353131))) + (a1.toInt64 * (Int64.ofInt (-4417276706812531889)))) ^^^ (sx_lus ((a0 * (Int64.ofInt (-7046029254386353131))) + (a1.toInt64 * (Int64.ofInt (-4417276706812531889)))) (Int8.ofInt 29).toInt32)) * (Int64.ofInt 1609587929392839161)) (Int8.ofInt 52).toInt32).toInt32 &&& (Int16.ofInt 4095).toInt32)
theorem fx_Table_hash {a0 : Int64} {a1 : Int32} {hp : px_H} {res : Int32} (hS : oS hp) (h : fn_Table_hash a0 a1 hp = some res) : px_C nm_T nm_P mi_Table_hash [.long a0, .int a1] hp (some (.int res)) hp ∧ oS hp := by
  unfold fn_Table_hash at h
  refine py_C (M := mm_Table_hash) rfl (Nat.le_of_ble_eq_true rfl) ?_
  show px_Y mm_Table_hash 0 [(0, .long a0), (2, .int a1)] [] hp _ _
  refine py_its (pc := 0) (pc1 := 33) (lv1 := [(3, .long (((a0 * (Int64.ofInt (-7046029254386353131))) + (a1.toInt64 * (Int64.ofInt (-4417276706812531889)))) ^^^ (sx_lus ((a0 * (Int64.ofInt (-7046029254386353131))) + (a1.toInt64 * (Int64.ofInt (-4417276706812531889)))) (Int8.ofInt 29).toInt32))), (0, .long a0), (2, .int a1)]) (st1 := [.int ((sx_lus ((((a0 * (Int64.ofInt (-7046029254386353131))) + (a1.toInt64 * (Int64.ofInt (-4417276706812531889)))) ^^^ (sx_lus ((a0 * (Int64.ofInt (-7046029254386353131))) + (a1.toInt64 * (Int64.ofInt (-4417276706812531889)))) (Int8.ofInt 29).toInt32)) * (Int64.ofInt 1609587929392839161)) (Int8.ofInt 52).toInt32).toInt32 &&& (Int16.ofInt 4095).toInt32)]) 23 (fun _ _ _ _ => rfl) ?_
  have h := Option.some.inj h
  subst h
  exact py_ir (pc := 33) (len := 1) (ty := .int) rfl rfl rfl hS
/-! Table_clear -/
noncomputable def fb_Table_clear_L2 (v0 : Nat) (rc : Int32 → px_H → Option (px_H)) (v1 : Int32) (hp : px_H) : Option (px_H) :=
  bif px_cmp .ge v1 (gI hp v0 3) then
    sb (wF hp v0 3 (.int (Int32.ofInt 0))) fun h2 =>
    some h2
  else
    bif px_inR v1 3000 then
    bif px_inR v1 3000 then
    (fn_Table_hash (aL hp (gR hp v0 0) v1.toNatClampNeg) (aI hp (gR hp v0 1) v1.toNatClampNeg) hp).bind fun q9 =>
    bif px_inR q9 4096 then
    sb (uI hp (gR hp v0 4) q9.toNatClampNeg (Int32.ofInt 0)) fun h13 =>
    rc (v1 + Int32.ofInt 1) h13
    else none
    else none
    else none
noncomputable def fn_Table_clear_L2 (v0 : Nat) : Nat → Int32 → px_H → Option (px_H)
  | 0 => fun _ _ => none
  | n + 1 => fb_Table_clear_L2 v0 (fn_Table_clear_L2 v0 n)
theorem fl_Table_clear_L2 {v0 : Nat} (hm0_ : v0 ∈ [29, 35, 41]) : ∀ (n : Nat) (v1 : Int32) (hp : px_H) (lv : List (Nat × Value)) (res : px_H), oS hp → lk lv [(0, .ref v0), (1, .int v1)] → fn_Table_clear_L2 v0 n v1 hp = some res → px_Y mm_Table_clear 2 lv [] hp none res := by
  intro n
  induction n with
  | zero =>
    intro v1 hp lv res hS hk h
    cases h
  | succ n ih =>
    intro v1 hp lv res hS hk h
    have h : fb_Table_clear_L2 v0 (fn_Table_clear_L2 v0 n) v1 hp = some res := h
    unfold fb_Table_clear_L2 at h
    refine py_iln (pc := 2) (len := 1) (j := 1) rfl hk rfl ?_
    refine py_aln (pc := 3) (len := 1) (j := 0) rfl hk rfl ?_
    refine py_gI (pc := 4) (len := 3) (cs := [29, 35, 41]) rfl rfl rfl hm0_ hS ?_
    cases hb1 : px_cmp .ge v1 (gI hp v0 3) with
    | true =>
      have h := cd_t hb1 h
      refine py_ic (pc := 7) (len := 3) true rfl hb1 ?_
      refine py_aln (pc := 37) (len := 1) (j := 0) rfl hk rfl ?_
      refine py_its (pc := 38) (pc1 := 39) (lv1 := lv) (st1 := [.int (Int32.ofInt 0), .ref v0]) 1 (fun _ _ _ _ => rfl) ?_
      have h := sb_e h
      refine py_pI (pc := 39) (len := 3) (cs := [29, 35, 41]) rfl rfl rfl hm0_ hS rfl rfl rfl rfl ?_
      have hS3 : oS (wF hp v0 3 (.int (Int32.ofInt 0))) := oS_wI (cs := [29, 35, 41]) (ci := 4) rfl hm0_ hS
      generalize (wF hp v0 3 (.int (Int32.ofInt 0))) = h2 at h hS3 ⊢
      have h := Option.some.inj h
      subst h
      exact py_rt (pc := 42) (len := 1) rfl rfl hS3
    | false =>
      have h := cd_f hb1 h
      refine py_ic (pc := 7) (len := 3) false rfl hb1 ?_
      refine py_aln (pc := 10) (len := 1) (j := 0) rfl hk rfl ?_
      refine py_gR [33, 39, 45] (pc := 11) (len := 3) (cs := [29, 35, 41]) rfl rfl rfl hm0_ hS (fun hm4 => ?_)
      refine py_aln (pc := 14) (len := 1) (j := 0) rfl hk rfl ?_
      refine py_gR [30, 36, 42] (pc := 15) (len := 3) (cs := [29, 35, 41]) rfl rfl rfl hm0_ hS (fun hm5 => ?_)
      refine py_iln (pc := 18) (len := 1) (j := 1) rfl hk rfl ?_
      obtain ⟨hi6, h⟩ := cd_n h
      refine py_al (pc := 19) (len := 1) (cs := [30, 36, 42]) (t := 6) (n := 3000) rfl rfl rfl hi6 hm5 hS ?_
      refine py_aln (pc := 20) (len := 1) (j := 0) rfl hk rfl ?_
      refine py_gR [31, 37, 43] (pc := 21) (len := 3) (cs := [29, 35, 41]) rfl rfl rfl hm0_ hS (fun hm7 => ?_)
      refine py_iln (pc := 24) (len := 1) (j := 1) rfl hk rfl ?_
      obtain ⟨hi8, h⟩ := cd_n h
      refine py_ai (pc := 25) (len := 1) (cs := [31, 37, 43]) (t := 7) (n := 3000) rfl rfl rfl hi8 hm7 hS ?_
      obtain ⟨q9, hq10, h⟩ := bd_e h
      have hC11 := (fx_Table_hash hS hq10).1
      refine py_st (pc := 26) (mi := mi_Table_hash) (N := mm_Table_hash) rfl rfl rfl (Nat.le_of_ble_eq_true rfl) (Nat.le_of_ble_eq_true rfl) rfl rfl hC11 ?_
      show px_Y mm_Table_clear 29 lv [.int q9, .ref (gR hp v0 4)] hp _ _
      refine py_its (pc := 29) (pc1 := 30) (lv1 := lv) (st1 := [.int (Int32.ofInt 0), .int q9, .ref (gR hp v0 4)]) 1 (fun _ _ _ _ => rfl) ?_
      obtain ⟨hi12, h⟩ := cd_n h
      have h := sb_e h
      refine py_si (pc := 30) (len := 1) (cs := [33, 39, 45]) (t := 9) (n := 4096) rfl rfl rfl hi12 hm4 hS ?_
      have hS14 : oS (uI hp (gR hp v0 4) q9.toNatClampNeg (Int32.ofInt 0)) := oS_uI (cs := [33, 39, 45]) (t := 9) (n := 4096) rfl hm4 hS
      generalize (uI hp (gR hp v0 4) q9.toNatClampNeg (Int32.ofInt 0)) = h13 at h hS14 ⊢
      refine py_inc (pc := 31) (len := 3) (j := 1) (n := 1) rfl rfl hk rfl (fun lv15 hk16 => ?_)
      have hk16 : lk lv15 [(1, .int (v1 + Int32.ofInt 1)), (0, .ref v0)] := hk16
      refine py_its (pc := 34) (pc1 := 2) (lv1 := lv15) (st1 := []) 1 (fun _ _ _ _ => rfl) ?_
      exact ih (v1 + Int32.ofInt 1) h13 lv15 _ hS14 ⟨lk_find hk16 rfl, lk_find hk16 rfl, trivial⟩ h
noncomputable def fn_Table_clear (c0 : Nat) (hp : px_H) : Option (px_H) :=
  fn_Table_clear_L2 c0 fu (Int32.ofInt 0) hp
theorem fx_Table_clear {c0 : Nat} {hp : px_H} {res : px_H} (hc0 : c0 ∈ [29, 35, 41]) (hS : oS hp) (h : fn_Table_clear c0 hp = some res) : px_C nm_T nm_P mi_Table_clear [.ref c0] hp none res ∧ oS res := by
  unfold fn_Table_clear at h
  refine py_C (M := mm_Table_clear) rfl (Nat.le_of_ble_eq_true rfl) ?_
  show px_Y mm_Table_clear 0 [(0, .ref c0)] [] hp _ _
  refine py_its (pc := 0) (pc1 := 2) (lv1 := [(1, .int (Int32.ofInt 0)), (0, .ref c0)]) (st1 := []) 2 (fun _ _ _ _ => rfl) ?_
  exact fl_Table_clear_L2 hc0 fu (Int32.ofInt 0) hp [(1, .int (Int32.ofInt 0)), (0, .ref c0)] _ hS ⟨rfl, rfl, trivial⟩ h
/-! Table_add -/
noncomputable def fb_Table_add_L21 (v0 : Nat) (v1 : Int64) (v3 : Int32) (v4 : Int64) (v6 : Int32) (rc : Int32 → Int32 → px_H → Option (Int32 × px_H)) (v7 : Int32) (v8 : Int32) (hp : px_H) : Option (Int32 × px_H) :=
  bif px_cmp .ge v8 (gI hp v0 3) then
    bif px_cmp .lt (gI hp v0 3) (Int16.ofInt 3000).toInt32 then
      bif px_inR (gI hp v0 3) 3000 then
      sb (uL hp (gR hp v0 0) (gI hp v0 3).toNatClampNeg v1) fun h10 =>
      bif px_inR (gI h10 v0 3) 3000 then
      sb (uI h10 (gR h10 v0 1) (gI h10 v0 3).toNatClampNeg v3) fun h14 =>
      bif px_inR (gI h14 v0 3) 3000 then
      sb (uL h14 (gR h14 v0 2) (gI h14 v0 3).toNatClampNeg v4) fun h18 =>
      bif px_inR v6 4096 then
      bif px_inR (gI h18 v0 3) 3000 then
      sb (uI h18 (gR h18 v0 5) (gI h18 v0 3).toNatClampNeg (aI h18 (gR h18 v0 4) v6.toNatClampNeg)) fun h24 =>
      sb (wF h24 v0 3 (.int ((gI h24 v0 3) + (Int32.ofInt 1)))) fun h26 =>
      bif px_inR v6 4096 then
      sb (uI h26 (gR h26 v0 4) v6.toNatClampNeg (gI h26 v0 3)) fun h30 =>
      some ((Int32.ofInt 1), h30)
      else none
      else none
      else none
      else none
      else none
      else none
    else
      some ((Int32.ofInt 0), hp)
  else
    bif px_cmp .lt v7 0 then
      bif px_cmp .lt (gI hp v0 3) (Int16.ofInt 3000).toInt32 then
        bif px_inR (gI hp v0 3) 3000 then
        sb (uL hp (gR hp v0 0) (gI hp v0 3).toNatClampNeg v1) fun h36 =>
        bif px_inR (gI h36 v0 3) 3000 then
        sb (uI h36 (gR h36 v0 1) (gI h36 v0 3).toNatClampNeg v3) fun h40 =>
        bif px_inR (gI h40 v0 3) 3000 then
        sb (uL h40 (gR h40 v0 2) (gI h40 v0 3).toNatClampNeg v4) fun h44 =>
        bif px_inR v6 4096 then
        bif px_inR (gI h44 v0 3) 3000 then
        sb (uI h44 (gR h44 v0 5) (gI h44 v0 3).toNatClampNeg (aI h44 (gR h44 v0 4) v6.toNatClampNeg)) fun h50 =>
        sb (wF h50 v0 3 (.int ((gI h50 v0 3) + (Int32.ofInt 1)))) fun h52 =>
        bif px_inR v6 4096 then
        sb (uI h52 (gR h52 v0 4) v6.toNatClampNeg (gI h52 v0 3)) fun h56 =>
        some ((Int32.ofInt 1), h56)
        else none
        else none
        else none
        else none
        else none
        else none
      else
        some ((Int32.ofInt 0), hp)
    else
      bif px_inR v7 3000 then
      bif px_cmp .ne (lg_cmp (aL hp (gR hp v0 0) v7.toNatClampNeg) v1) 0 then
        bif px_inR v7 3000 then
        rc ((aI hp (gR hp v0 5) v7.toNatClampNeg) - (Int32.ofInt 1)) (v8 + Int32.ofInt 1) hp
        else none
      else
        bif px_inR v7 3000 then
        bif px_cmp .ne (aI hp (gR hp v0 1) v7.toNatClampNeg) v3 then
          bif px_inR v7 3000 then
          rc ((aI hp (gR hp v0 5) v7.toNatClampNeg) - (Int32.ofInt 1)) (v8 + Int32.ofInt 1) hp
          else none
        else
          bif px_inR v7 3000 then
          bif px_inR v7 3000 then
          sb (uL hp (gR hp v0 2) v7.toNatClampNeg ((aL hp (gR hp v0 2) v7.toNatClampNeg) + v4)) fun h79 =>
          some ((Int32.ofInt 1), h79)
          else none
          else none
        else none
      else none
noncomputable def fn_Table_add_L21 (v0 : Nat) (v1 : Int64) (v3 : Int32) (v4 : Int64) (v6 : Int32) : Nat → Int32 → Int32 → px_H → Option (Int32 × px_H)
  | 0 => fun _ _ _ => none
  | n + 1 => fb_Table_add_L21 v0 v1 v3 v4 v6 (fn_Table_add_L21 v0 v1 v3 v4 v6 n)
theorem fl_Table_add_L21 {v0 : Nat} {v1 : Int64} {v3 : Int32} {v4 : Int64} {v6 : Int32} (hm0_ : v0 ∈ [29, 35, 41]) : ∀ (n : Nat) (v7 : Int32) (v8 : Int32) (hp : px_H) (lv : List (Nat × Value)) (res : Int32 × px_H), oS hp → lk lv [(0, .ref v0), (1, .long v1), (3, .int v3), (4, .long v4), (6, .int v6), (7, .int v7), (8, .int v8)] → fn_Table_add_L21 v0 v1 v3 v4 v6 n v7 v8 hp = some res → px_Y mm_Table_add 21 lv [] hp (some (.int res.1)) res.2 := by
  intro n
  induction n with
  | zero =>
    intro v7 v8 hp lv res hS hk h
    cases h
  | succ n ih =>
    intro v7 v8 hp lv res hS hk h
    have h : fb_Table_add_L21 v0 v1 v3 v4 v6 (fn_Table_add_L21 v0 v1 v3 v4 v6 n) v7 v8 hp = some res := h
    unfold fb_Table_add_L21 at h
    refine py_il (pc := 21) (len := 2) (j := 8) rfl hk rfl ?_
    refine py_aln (pc := 23) (len := 1) (j := 0) rfl hk rfl ?_
    refine py_gI (pc := 24) (len := 3) (cs := [29, 35, 41]) rfl rfl rfl hm0_ hS ?_
    cases hb6 : px_cmp .ge v8 (gI hp v0 3) with
    | true =>
      have h := cd_t hb6 h
      refine py_ic (pc := 27) (len := 3) true rfl hb6 ?_
      refine py_aln (pc := 89) (len := 1) (j := 0) rfl hk rfl ?_
      refine py_gI (pc := 90) (len := 3) (cs := [29, 35, 41]) rfl rfl rfl hm0_ hS ?_
      refine py_its (pc := 93) (pc1 := 96) (lv1 := lv) (st1 := [.int (Int16.ofInt 3000).toInt32, .int (gI hp v0 3)]) 1 (fun _ _ _ _ => rfl) ?_
      cases hb7 : px_cmp .lt (gI hp v0 3) (Int16.ofInt 3000).toInt32 with
      | true =>
        have h := cd_t hb7 h
        refine py_ic (pc := 96) (len := 3) true rfl hb7 ?_
        refine py_aln (pc := 101) (len := 1) (j := 0) rfl hk rfl ?_
        refine py_gR [30, 36, 42] (pc := 102) (len := 3) (cs := [29, 35, 41]) rfl rfl rfl hm0_ hS (fun hm8 => ?_)
        refine py_aln (pc := 105) (len := 1) (j := 0) rfl hk rfl ?_
        refine py_gI (pc := 106) (len := 3) (cs := [29, 35, 41]) rfl rfl rfl hm0_ hS ?_
        refine py_lln (pc := 109) (len := 1) (j := 1) rfl hk rfl ?_
        obtain ⟨hi9, h⟩ := cd_n h
        have h := sb_e h
        refine py_sl (pc := 110) (len := 1) (cs := [30, 36, 42]) (t := 6) (n := 3000) rfl rfl rfl hi9 hm8 hS ?_
        have hS11 : oS (uL hp (gR hp v0 0) (gI hp v0 3).toNatClampNeg v1) := oS_uL (cs := [30, 36, 42]) (t := 6) (n := 3000) rfl hm8 hS
        generalize (uL hp (gR hp v0 0) (gI hp v0 3).toNatClampNeg v1) = h10 at h hS11 ⊢
        refine py_aln (pc := 111) (len := 1) (j := 0) rfl hk rfl ?_
        refine py_gR [31, 37, 43] (pc := 112) (len := 3) (cs := [29, 35, 41]) rfl rfl rfl hm0_ hS11 (fun hm12 => ?_)
        refine py_aln (pc := 115) (len := 1) (j := 0) rfl hk rfl ?_
        refine py_gI (pc := 116) (len := 3) (cs := [29, 35, 41]) rfl rfl rfl hm0_ hS11 ?_
        refine py_iln (pc := 119) (len := 1) (j := 3) rfl hk rfl ?_
        obtain ⟨hi13, h⟩ := cd_n h
        have h := sb_e h
        refine py_si (pc := 120) (len := 1) (cs := [31, 37, 43]) (t := 7) (n := 3000) rfl rfl rfl hi13 hm12 hS11 ?_
        have hS15 : oS (uI h10 (gR h10 v0 1) (gI h10 v0 3).toNatClampNeg v3) := oS_uI (cs := [31, 37, 43]) (t := 7) (n := 3000) rfl hm12 hS11
        generalize (uI h10 (gR h10 v0 1) (gI h10 v0 3).toNatClampNeg v3) = h14 at h hS15 ⊢
        refine py_aln (pc := 121) (len := 1) (j := 0) rfl hk rfl ?_
        refine py_gR [32, 38, 44] (pc := 122) (len := 3) (cs := [29, 35, 41]) rfl rfl rfl hm0_ hS15 (fun hm16 => ?_)
        refine py_aln (pc := 125) (len := 1) (j := 0) rfl hk rfl ?_
        refine py_gI (pc := 126) (len := 3) (cs := [29, 35, 41]) rfl rfl rfl hm0_ hS15 ?_
        refine py_ll (pc := 129) (len := 2) (j := 4) rfl hk rfl ?_
        obtain ⟨hi17, h⟩ := cd_n h
        have h := sb_e h
        refine py_sl (pc := 131) (len := 1) (cs := [32, 38, 44]) (t := 8) (n := 3000) rfl rfl rfl hi17 hm16 hS15 ?_
        have hS19 : oS (uL h14 (gR h14 v0 2) (gI h14 v0 3).toNatClampNeg v4) := oS_uL (cs := [32, 38, 44]) (t := 8) (n := 3000) rfl hm16 hS15
        generalize (uL h14 (gR h14 v0 2) (gI h14 v0 3).toNatClampNeg v4) = h18 at h hS19 ⊢
        refine py_aln (pc := 132) (len := 1) (j := 0) rfl hk rfl ?_
        refine py_gR [34, 40, 46] (pc := 133) (len := 3) (cs := [29, 35, 41]) rfl rfl rfl hm0_ hS19 (fun hm20 => ?_)
        refine py_aln (pc := 136) (len := 1) (j := 0) rfl hk rfl ?_
        refine py_gI (pc := 137) (len := 3) (cs := [29, 35, 41]) rfl rfl rfl hm0_ hS19 ?_
        refine py_aln (pc := 140) (len := 1) (j := 0) rfl hk rfl ?_
        refine py_gR [33, 39, 45] (pc := 141) (len := 3) (cs := [29, 35, 41]) rfl rfl rfl hm0_ hS19 (fun hm21 => ?_)
        refine py_il (pc := 144) (len := 2) (j := 6) rfl hk rfl ?_
        obtain ⟨hi22, h⟩ := cd_n h
        refine py_ai (pc := 146) (len := 1) (cs := [33, 39, 45]) (t := 9) (n := 4096) rfl rfl rfl hi22 hm21 hS19 ?_
        obtain ⟨hi23, h⟩ := cd_n h
        have h := sb_e h
        refine py_si (pc := 147) (len := 1) (cs := [34, 40, 46]) (t := 10) (n := 3000) rfl rfl rfl hi23 hm20 hS19 ?_
        have hS25 : oS (uI h18 (gR h18 v0 5) (gI h18 v0 3).toNatClampNeg (aI h18 (gR h18 v0 4) v6.toNatClampNeg)) := oS_uI (cs := [34, 40, 46]) (t := 10) (n := 3000) rfl hm20 hS19
        generalize (uI h18 (gR h18 v0 5) (gI h18 v0 3).toNatClampNeg (aI h18 (gR h18 v0 4) v6.toNatClampNeg)) = h24 at h hS25 ⊢
        refine py_aln (pc := 148) (len := 1) (j := 0) rfl hk rfl ?_
        refine py_its (pc := 149) (pc1 := 150) (lv1 := lv) (st1 := [.ref v0, .ref v0]) 1 (fun _ _ _ _ => rfl) ?_
        refine py_gI (pc := 150) (len := 3) (cs := [29, 35, 41]) rfl rfl rfl hm0_ hS25 ?_
        refine py_its (pc := 153) (pc1 := 155) (lv1 := lv) (st1 := [.int ((gI h24 v0 3) + (Int32.ofInt 1)), .ref v0]) 2 (fun _ _ _ _ => rfl) ?_
        have h := sb_e h
        refine py_pI (pc := 155) (len := 3) (cs := [29, 35, 41]) rfl rfl rfl hm0_ hS25 rfl rfl rfl rfl ?_
        have hS27 : oS (wF h24 v0 3 (.int ((gI h24 v0 3) + (Int32.ofInt 1)))) := oS_wI (cs := [29, 35, 41]) (ci := 4) rfl hm0_ hS25
        generalize (wF h24 v0 3 (.int ((gI h24 v0 3) + (Int32.ofInt 1)))) = h26 at h hS27 ⊢
        refine py_aln (pc := 158) (len := 1) (j := 0) rfl hk rfl ?_
        refine py_gR [33, 39, 45] (pc := 159) (len := 3) (cs := [29, 35, 41]) rfl rfl rfl hm0_ hS27 (fun hm28 => ?_)
        refine py_il (pc := 162) (len := 2) (j := 6) rfl hk rfl ?_
        refine py_aln (pc := 164) (len := 1) (j := 0) rfl hk rfl ?_
        refine py_gI (pc := 165) (len := 3) (cs := [29, 35, 41]) rfl rfl rfl hm0_ hS27 ?_
        obtain ⟨hi29, h⟩ := cd_n h
        have h := sb_e h
        refine py_si (pc := 168) (len := 1) (cs := [33, 39, 45]) (t := 9) (n := 4096) rfl rfl rfl hi29 hm28 hS27 ?_
        have hS31 : oS (uI h26 (gR h26 v0 4) v6.toNatClampNeg (gI h26 v0 3)) := oS_uI (cs := [33, 39, 45]) (t := 9) (n := 4096) rfl hm28 hS27
        generalize (uI h26 (gR h26 v0 4) v6.toNatClampNeg (gI h26 v0 3)) = h30 at h hS31 ⊢
        refine py_its (pc := 169) (pc1 := 170) (lv1 := lv) (st1 := [.int (Int32.ofInt 1)]) 1 (fun _ _ _ _ => rfl) ?_
        have h := Option.some.inj h
        subst h
        exact py_ir (pc := 170) (len := 1) (ty := .boolean) rfl rfl (by decide) hS31
      | false =>
        have h := cd_f hb7 h
        refine py_ic (pc := 96) (len := 3) false rfl hb7 ?_
        refine py_its (pc := 99) (pc1 := 100) (lv1 := lv) (st1 := [.int (Int32.ofInt 0)]) 1 (fun _ _ _ _ => rfl) ?_
        have h := Option.some.inj h
        subst h
        exact py_ir (pc := 100) (len := 1) (ty := .boolean) rfl rfl (by decide) hS
    | false =>
      have h := cd_f hb6 h
      refine py_ic (pc := 27) (len := 3) false rfl hb6 ?_
      refine py_il (pc := 30) (len := 2) (j := 7) rfl hk rfl ?_
      cases hb32 : px_cmp .lt v7 0 with
      | true =>
        have h := cd_t hb32 h
        refine py_if (pc := 32) (len := 3) true rfl hb32 ?_
        refine py_aln (pc := 89) (len := 1) (j := 0) rfl hk rfl ?_
        refine py_gI (pc := 90) (len := 3) (cs := [29, 35, 41]) rfl rfl rfl hm0_ hS ?_
        refine py_its (pc := 93) (pc1 := 96) (lv1 := lv) (st1 := [.int (Int16.ofInt 3000).toInt32, .int (gI hp v0 3)]) 1 (fun _ _ _ _ => rfl) ?_
        cases hb33 : px_cmp .lt (gI hp v0 3) (Int16.ofInt 3000).toInt32 with
        | true =>
          have h := cd_t hb33 h
          refine py_ic (pc := 96) (len := 3) true rfl hb33 ?_
          refine py_aln (pc := 101) (len := 1) (j := 0) rfl hk rfl ?_
          refine py_gR [30, 36, 42] (pc := 102) (len := 3) (cs := [29, 35, 41]) rfl rfl rfl hm0_ hS (fun hm34 => ?_)
          refine py_aln (pc := 105) (len := 1) (j := 0) rfl hk rfl ?_
          refine py_gI (pc := 106) (len := 3) (cs := [29, 35, 41]) rfl rfl rfl hm0_ hS ?_
          refine py_lln (pc := 109) (len := 1) (j := 1) rfl hk rfl ?_
          obtain ⟨hi35, h⟩ := cd_n h
          have h := sb_e h
          refine py_sl (pc := 110) (len := 1) (cs := [30, 36, 42]) (t := 6) (n := 3000) rfl rfl rfl hi35 hm34 hS ?_
          have hS37 : oS (uL hp (gR hp v0 0) (gI hp v0 3).toNatClampNeg v1) := oS_uL (cs := [30, 36, 42]) (t := 6) (n := 3000) rfl hm34 hS
          generalize (uL hp (gR hp v0 0) (gI hp v0 3).toNatClampNeg v1) = h36 at h hS37 ⊢
          refine py_aln (pc := 111) (len := 1) (j := 0) rfl hk rfl ?_
          refine py_gR [31, 37, 43] (pc := 112) (len := 3) (cs := [29, 35, 41]) rfl rfl rfl hm0_ hS37 (fun hm38 => ?_)
          refine py_aln (pc := 115) (len := 1) (j := 0) rfl hk rfl ?_
          refine py_gI (pc := 116) (len := 3) (cs := [29, 35, 41]) rfl rfl rfl hm0_ hS37 ?_
          refine py_iln (pc := 119) (len := 1) (j := 3) rfl hk rfl ?_
          obtain ⟨hi39, h⟩ := cd_n h
          have h := sb_e h
          refine py_si (pc := 120) (len := 1) (cs := [31, 37, 43]) (t := 7) (n := 3000) rfl rfl rfl hi39 hm38 hS37 ?_
          have hS41 : oS (uI h36 (gR h36 v0 1) (gI h36 v0 3).toNatClampNeg v3) := oS_uI (cs := [31, 37, 43]) (t := 7) (n := 3000) rfl hm38 hS37
          generalize (uI h36 (gR h36 v0 1) (gI h36 v0 3).toNatClampNeg v3) = h40 at h hS41 ⊢
          refine py_aln (pc := 121) (len := 1) (j := 0) rfl hk rfl ?_
          refine py_gR [32, 38, 44] (pc := 122) (len := 3) (cs := [29, 35, 41]) rfl rfl rfl hm0_ hS41 (fun hm42 => ?_)
          refine py_aln (pc := 125) (len := 1) (j := 0) rfl hk rfl ?_
          refine py_gI (pc := 126) (len := 3) (cs := [29, 35, 41]) rfl rfl rfl hm0_ hS41 ?_
          refine py_ll (pc := 129) (len := 2) (j := 4) rfl hk rfl ?_
          obtain ⟨hi43, h⟩ := cd_n h
          have h := sb_e h
          refine py_sl (pc := 131) (len := 1) (cs := [32, 38, 44]) (t := 8) (n := 3000) rfl rfl rfl hi43 hm42 hS41 ?_
          have hS45 : oS (uL h40 (gR h40 v0 2) (gI h40 v0 3).toNatClampNeg v4) := oS_uL (cs := [32, 38, 44]) (t := 8) (n := 3000) rfl hm42 hS41
          generalize (uL h40 (gR h40 v0 2) (gI h40 v0 3).toNatClampNeg v4) = h44 at h hS45 ⊢
          refine py_aln (pc := 132) (len := 1) (j := 0) rfl hk rfl ?_
          refine py_gR [34, 40, 46] (pc := 133) (len := 3) (cs := [29, 35, 41]) rfl rfl rfl hm0_ hS45 (fun hm46 => ?_)
          refine py_aln (pc := 136) (len := 1) (j := 0) rfl hk rfl ?_
          refine py_gI (pc := 137) (len := 3) (cs := [29, 35, 41]) rfl rfl rfl hm0_ hS45 ?_
          refine py_aln (pc := 140) (len := 1) (j := 0) rfl hk rfl ?_
          refine py_gR [33, 39, 45] (pc := 141) (len := 3) (cs := [29, 35, 41]) rfl rfl rfl hm0_ hS45 (fun hm47 => ?_)
          refine py_il (pc := 144) (len := 2) (j := 6) rfl hk rfl ?_
          obtain ⟨hi48, h⟩ := cd_n h
          refine py_ai (pc := 146) (len := 1) (cs := [33, 39, 45]) (t := 9) (n := 4096) rfl rfl rfl hi48 hm47 hS45 ?_
          obtain ⟨hi49, h⟩ := cd_n h
          have h := sb_e h
          refine py_si (pc := 147) (len := 1) (cs := [34, 40, 46]) (t := 10) (n := 3000) rfl rfl rfl hi49 hm46 hS45 ?_
          have hS51 : oS (uI h44 (gR h44 v0 5) (gI h44 v0 3).toNatClampNeg (aI h44 (gR h44 v0 4) v6.toNatClampNeg)) := oS_uI (cs := [34, 40, 46]) (t := 10) (n := 3000) rfl hm46 hS45
          generalize (uI h44 (gR h44 v0 5) (gI h44 v0 3).toNatClampNeg (aI h44 (gR h44 v0 4) v6.toNatClampNeg)) = h50 at h hS51 ⊢
          refine py_aln (pc := 148) (len := 1) (j := 0) rfl hk rfl ?_
          refine py_its (pc := 149) (pc1 := 150) (lv1 := lv) (st1 := [.ref v0, .ref v0]) 1 (fun _ _ _ _ => rfl) ?_
          refine py_gI (pc := 150) (len := 3) (cs := [29, 35, 41]) rfl rfl rfl hm0_ hS51 ?_
          refine py_its (pc := 153) (pc1 := 155) (lv1 := lv) (st1 := [.int ((gI h50 v0 3) + (Int32.ofInt 1)), .ref v0]) 2 (fun _ _ _ _ => rfl) ?_
          have h := sb_e h
          refine py_pI (pc := 155) (len := 3) (cs := [29, 35, 41]) rfl rfl rfl hm0_ hS51 rfl rfl rfl rfl ?_
          have hS53 : oS (wF h50 v0 3 (.int ((gI h50 v0 3) + (Int32.ofInt 1)))) := oS_wI (cs := [29, 35, 41]) (ci := 4) rfl hm0_ hS51
          generalize (wF h50 v0 3 (.int ((gI h50 v0 3) + (Int32.ofInt 1)))) = h52 at h hS53 ⊢
          refine py_aln (pc := 158) (len := 1) (j := 0) rfl hk rfl ?_
          refine py_gR [33, 39, 45] (pc := 159) (len := 3) (cs := [29, 35, 41]) rfl rfl rfl hm0_ hS53 (fun hm54 => ?_)
          refine py_il (pc := 162) (len := 2) (j := 6) rfl hk rfl ?_
          refine py_aln (pc := 164) (len := 1) (j := 0) rfl hk rfl ?_
          refine py_gI (pc := 165) (len := 3) (cs := [29, 35, 41]) rfl rfl rfl hm0_ hS53 ?_
          obtain ⟨hi55, h⟩ := cd_n h
          have h := sb_e h
          refine py_si (pc := 168) (len := 1) (cs := [33, 39, 45]) (t := 9) (n := 4096) rfl rfl rfl hi55 hm54 hS53 ?_
          have hS57 : oS (uI h52 (gR h52 v0 4) v6.toNatClampNeg (gI h52 v0 3)) := oS_uI (cs := [33, 39, 45]) (t := 9) (n := 4096) rfl hm54 hS53
          generalize (uI h52 (gR h52 v0 4) v6.toNatClampNeg (gI h52 v0 3)) = h56 at h hS57 ⊢
          refine py_its (pc := 169) (pc1 := 170) (lv1 := lv) (st1 := [.int (Int32.ofInt 1)]) 1 (fun _ _ _ _ => rfl) ?_
          have h := Option.some.inj h
          subst h
          exact py_ir (pc := 170) (len := 1) (ty := .boolean) rfl rfl (by decide) hS57
        | false =>
          have h := cd_f hb33 h
          refine py_ic (pc := 96) (len := 3) false rfl hb33 ?_
          refine py_its (pc := 99) (pc1 := 100) (lv1 := lv) (st1 := [.int (Int32.ofInt 0)]) 1 (fun _ _ _ _ => rfl) ?_
          have h := Option.some.inj h
          subst h
          exact py_ir (pc := 100) (len := 1) (ty := .boolean) rfl rfl (by decide) hS
      | false =>
        have h := cd_f hb32 h
        refine py_if (pc := 32) (len := 3) false rfl hb32 ?_
        refine py_aln (pc := 35) (len := 1) (j := 0) rfl hk rfl ?_
        refine py_gR [30, 36, 42] (pc := 36) (len := 3) (cs := [29, 35, 41]) rfl rfl rfl hm0_ hS (fun hm58 => ?_)
        refine py_il (pc := 39) (len := 2) (j := 7) rfl hk rfl ?_
        obtain ⟨hi59, h⟩ := cd_n h
        refine py_al (pc := 41) (len := 1) (cs := [30, 36, 42]) (t := 6) (n := 3000) rfl rfl rfl hi59 hm58 hS ?_
        refine py_lln (pc := 42) (len := 1) (j := 1) rfl hk rfl ?_
        cases hb60 : px_cmp .ne (lg_cmp (aL hp (gR hp v0 0) v7.toNatClampNeg) v1) 0 with
        | true =>
          have h := cd_t hb60 h
          refine py_lc (pc := 43) (len := 1) true rfl rfl hb60 ?_
          refine py_aln (pc := 72) (len := 1) (j := 0) rfl hk rfl ?_
          refine py_gR [34, 40, 46] (pc := 73) (len := 3) (cs := [29, 35, 41]) rfl rfl rfl hm0_ hS (fun hm61 => ?_)
          refine py_il (pc := 76) (len := 2) (j := 7) rfl hk rfl ?_
          obtain ⟨hi62, h⟩ := cd_n h
          refine py_ai (pc := 78) (len := 1) (cs := [34, 40, 46]) (t := 10) (n := 3000) rfl rfl rfl hi62 hm61 hS ?_
          refine py_its (pc := 79) (pc1 := 81) (lv1 := lv) (st1 := [.int ((aI hp (gR hp v0 5) v7.toNatClampNeg) - (Int32.ofInt 1))]) 2 (fun _ _ _ _ => rfl) ?_
          refine py_sti (pc := 81) (len := 2) (j := 7) rfl rfl hk (fun lv63 hk64 => ?_)
          have hk64 : lk lv63 [(7, .int ((aI hp (gR hp v0 5) v7.toNatClampNeg) - (Int32.ofInt 1))), (0, .ref v0), (1, .long v1), (3, .int v3), (4, .long v4), (6, .int v6), (8, .int v8)] := hk64
          refine py_inc (pc := 83) (len := 3) (j := 8) (n := 1) rfl rfl hk64 rfl (fun lv65 hk66 => ?_)
          have hk66 : lk lv65 [(8, .int (v8 + Int32.ofInt 1)), (7, .int ((aI hp (gR hp v0 5) v7.toNatClampNeg) - (Int32.ofInt 1))), (0, .ref v0), (1, .long v1), (3, .int v3), (4, .long v4), (6, .int v6)] := hk66
          refine py_its (pc := 86) (pc1 := 21) (lv1 := lv65) (st1 := []) 1 (fun _ _ _ _ => rfl) ?_
          exact ih ((aI hp (gR hp v0 5) v7.toNatClampNeg) - (Int32.ofInt 1)) (v8 + Int32.ofInt 1) hp lv65 _ hS ⟨lk_find hk66 rfl, lk_find hk66 rfl, lk_find hk66 rfl, lk_find hk66 rfl, lk_find hk66 rfl, lk_find hk66 rfl, lk_find hk66 rfl, trivial⟩ h
        | false =>
          have h := cd_f hb60 h
          refine py_lc (pc := 43) (len := 1) false rfl rfl hb60 ?_
          refine py_aln (pc := 47) (len := 1) (j := 0) rfl hk rfl ?_
          refine py_gR [31, 37, 43] (pc := 48) (len := 3) (cs := [29, 35, 41]) rfl rfl rfl hm0_ hS (fun hm67 => ?_)
          refine py_il (pc := 51) (len := 2) (j := 7) rfl hk rfl ?_
          obtain ⟨hi68, h⟩ := cd_n h
          refine py_ai (pc := 53) (len := 1) (cs := [31, 37, 43]) (t := 7) (n := 3000) rfl rfl rfl hi68 hm67 hS ?_
          refine py_iln (pc := 54) (len := 1) (j := 3) rfl hk rfl ?_
          cases hb69 : px_cmp .ne (aI hp (gR hp v0 1) v7.toNatClampNeg) v3 with
          | true =>
            have h := cd_t hb69 h
            refine py_ic (pc := 55) (len := 3) true rfl hb69 ?_
            refine py_aln (pc := 72) (len := 1) (j := 0) rfl hk rfl ?_
            refine py_gR [34, 40, 46] (pc := 73) (len := 3) (cs := [29, 35, 41]) rfl rfl rfl hm0_ hS (fun hm70 => ?_)
            refine py_il (pc := 76) (len := 2) (j := 7) rfl hk rfl ?_
            obtain ⟨hi71, h⟩ := cd_n h
            refine py_ai (pc := 78) (len := 1) (cs := [34, 40, 46]) (t := 10) (n := 3000) rfl rfl rfl hi71 hm70 hS ?_
            refine py_its (pc := 79) (pc1 := 81) (lv1 := lv) (st1 := [.int ((aI hp (gR hp v0 5) v7.toNatClampNeg) - (Int32.ofInt 1))]) 2 (fun _ _ _ _ => rfl) ?_
            refine py_sti (pc := 81) (len := 2) (j := 7) rfl rfl hk (fun lv72 hk73 => ?_)
            have hk73 : lk lv72 [(7, .int ((aI hp (gR hp v0 5) v7.toNatClampNeg) - (Int32.ofInt 1))), (0, .ref v0), (1, .long v1), (3, .int v3), (4, .long v4), (6, .int v6), (8, .int v8)] := hk73
            refine py_inc (pc := 83) (len := 3) (j := 8) (n := 1) rfl rfl hk73 rfl (fun lv74 hk75 => ?_)
            have hk75 : lk lv74 [(8, .int (v8 + Int32.ofInt 1)), (7, .int ((aI hp (gR hp v0 5) v7.toNatClampNeg) - (Int32.ofInt 1))), (0, .ref v0), (1, .long v1), (3, .int v3), (4, .long v4), (6, .int v6)] := hk75
            refine py_its (pc := 86) (pc1 := 21) (lv1 := lv74) (st1 := []) 1 (fun _ _ _ _ => rfl) ?_
            exact ih ((aI hp (gR hp v0 5) v7.toNatClampNeg) - (Int32.ofInt 1)) (v8 + Int32.ofInt 1) hp lv74 _ hS ⟨lk_find hk75 rfl, lk_find hk75 rfl, lk_find hk75 rfl, lk_find hk75 rfl, lk_find hk75 rfl, lk_find hk75 rfl, lk_find hk75 rfl, trivial⟩ h
          | false =>
            have h := cd_f hb69 h
            refine py_ic (pc := 55) (len := 3) false rfl hb69 ?_
            refine py_aln (pc := 58) (len := 1) (j := 0) rfl hk rfl ?_
            refine py_gR [32, 38, 44] (pc := 59) (len := 3) (cs := [29, 35, 41]) rfl rfl rfl hm0_ hS (fun hm76 => ?_)
            refine py_il (pc := 62) (len := 2) (j := 7) rfl hk rfl ?_
            refine py_its (pc := 64) (pc1 := 65) (lv1 := lv) (st1 := [.int v7, .ref (gR hp v0 2), .int v7, .ref (gR hp v0 2)]) 1 (fun _ _ _ _ => rfl) ?_
            obtain ⟨hi77, h⟩ := cd_n h
            refine py_al (pc := 65) (len := 1) (cs := [32, 38, 44]) (t := 8) (n := 3000) rfl rfl rfl hi77 hm76 hS ?_
            refine py_ll (pc := 66) (len := 2) (j := 4) rfl hk rfl ?_
            refine py_its (pc := 68) (pc1 := 69) (lv1 := lv) (st1 := [.long ((aL hp (gR hp v0 2) v7.toNatClampNeg) + v4), .int v7, .ref (gR hp v0 2)]) 1 (fun _ _ _ _ => rfl) ?_
            obtain ⟨hi78, h⟩ := cd_n h
            have h := sb_e h
            refine py_sl (pc := 69) (len := 1) (cs := [32, 38, 44]) (t := 8) (n := 3000) rfl rfl rfl hi78 hm76 hS ?_
            have hS80 : oS (uL hp (gR hp v0 2) v7.toNatClampNeg ((aL hp (gR hp v0 2) v7.toNatClampNeg) + v4)) := oS_uL (cs := [32, 38, 44]) (t := 8) (n := 3000) rfl hm76 hS
            generalize (uL hp (gR hp v0 2) v7.toNatClampNeg ((aL hp (gR hp v0 2) v7.toNatClampNeg) + v4)) = h79 at h hS80 ⊢
            refine py_its (pc := 70) (pc1 := 71) (lv1 := lv) (st1 := [.int (Int32.ofInt 1)]) 1 (fun _ _ _ _ => rfl) ?_
            have h := Option.some.inj h
            subst h
            exact py_ir (pc := 71) (len := 1) (ty := .boolean) rfl rfl (by decide) hS80
noncomputable def fn_Table_add (c0 : Nat) (a1 : Int64) (a2 : Int32) (a3 : Int64) (hp : px_H) : Option (Int32 × px_H) :=
  (fn_Table_hash a1 a2 hp).bind fun q1 =>
  bif px_inR q1 4096 then
  fn_Table_add_L21 c0 a1 a2 a3 q1 fu ((aI hp (gR hp c0 4) q1.toNatClampNeg) - (Int32.ofInt 1)) (Int32.ofInt 0) hp
  else none
theorem fx_Table_add {c0 : Nat} {a1 : Int64} {a2 : Int32} {a3 : Int64} {hp : px_H} {res : Int32 × px_H} (hc0 : c0 ∈ [29, 35, 41]) (hS : oS hp) (h : fn_Table_add c0 a1 a2 a3 hp = some res) : px_C nm_T nm_P mi_Table_add [.ref c0, .long a1, .int a2, .long a3] hp (some (.int res.1)) res.2 ∧ oS res.2 := by
  unfold fn_Table_add at h
  refine py_C (M := mm_Table_add) rfl (Nat.le_of_ble_eq_true rfl) ?_
  show px_Y mm_Table_add 0 [(0, .ref c0), (1, .long a1), (3, .int a2), (4, .long a3)] [] hp _ _
  refine py_its (pc := 0) (pc1 := 2) (lv1 := [(0, .ref c0), (1, .long a1), (3, .int a2), (4, .long a3)]) (st1 := [.int a2, .long a1]) 2 (fun _ _ _ _ => rfl) ?_
  obtain ⟨q1, hq2, h⟩ := bd_e h
  have hC3 := (fx_Table_hash hS hq2).1
  refine py_st (pc := 2) (mi := mi_Table_hash) (N := mm_Table_hash) rfl rfl rfl (Nat.le_of_ble_eq_true rfl) (Nat.le_of_ble_eq_true rfl) rfl rfl hC3 ?_
  show px_Y mm_Table_add 5 [(0, .ref c0), (1, .long a1), (3, .int a2), (4, .long a3)] [.int q1] hp _ _
  refine py_its (pc := 5) (pc1 := 8) (lv1 := [(6, .int q1), (0, .ref c0), (1, .long a1), (3, .int a2), (4, .long a3)]) (st1 := [.ref c0]) 2 (fun _ _ _ _ => rfl) ?_
  refine py_gR [33, 39, 45] (pc := 8) (len := 3) (cs := [29, 35, 41]) rfl rfl rfl hc0 hS (fun hm4 => ?_)
  refine py_its (pc := 11) (pc1 := 13) (lv1 := [(6, .int q1), (0, .ref c0), (1, .long a1), (3, .int a2), (4, .long a3)]) (st1 := [.int q1, .ref (gR hp c0 4)]) 1 (fun _ _ _ _ => rfl) ?_
  obtain ⟨hi5, h⟩ := cd_n h
  refine py_ai (pc := 13) (len := 1) (cs := [33, 39, 45]) (t := 9) (n := 4096) rfl rfl rfl hi5 hm4 hS ?_
  refine py_its (pc := 14) (pc1 := 21) (lv1 := [(8, .int (Int32.ofInt 0)), (7, .int ((aI hp (gR hp c0 4) q1.toNatClampNeg) - (Int32.ofInt 1))), (6, .int q1), (0, .ref c0), (1, .long a1), (3, .int a2), (4, .long a3)]) (st1 := []) 5 (fun _ _ _ _ => rfl) ?_
  exact fl_Table_add_L21 hc0 fu ((aI hp (gR hp c0 4) q1.toNatClampNeg) - (Int32.ofInt 1)) (Int32.ofInt 0) hp [(8, .int (Int32.ofInt 0)), (7, .int ((aI hp (gR hp c0 4) q1.toNatClampNeg) - (Int32.ofInt 1))), (6, .int q1), (0, .ref c0), (1, .long a1), (3, .int a2), (4, .long a3)] _ hS ⟨rfl, rfl, rfl, rfl, rfl, rfl, rfl, trivial⟩ h
/-! Walk_start -/
noncomputable def fn_Walk_start (c1 : Nat) (hp : px_H) : Option (px_H) :=
  (fn_Table_clear (gR hp 28 2) hp).bind fun q2 =>
  (fn_Table_add (gR q2 28 2) (gL q2 c1 0) (gI q2 c1 1) (Int64.ofInt 1000000000000) q2).bind fun q7 =>
  some q7.2
theorem fx_Walk_start {c1 : Nat} {hp : px_H} {res : px_H} (hc1 : c1 ∈ [19, 20, 47, 66, 67, 68]) (hS : oS hp) (h : fn_Walk_start c1 hp = some res) : px_C nm_T nm_P mi_Walk_start [.ref 28, .ref c1] hp none res ∧ oS res := by
  unfold fn_Walk_start at h
  refine py_C (M := mm_Walk_start) rfl (Nat.le_of_ble_eq_true rfl) ?_
  show px_Y mm_Walk_start 0 [(0, .ref 28), (1, .ref c1)] [] hp _ _
  refine py_its (pc := 0) (pc1 := 1) (lv1 := [(0, .ref 28), (1, .ref c1)]) (st1 := [.ref 28]) 1 (fun _ _ _ _ => rfl) ?_
  refine py_gR [29, 35, 41] (pc := 1) (len := 3) (cs := [28]) rfl rfl rfl List.mem_cons_self hS (fun hm1 => ?_)
  obtain ⟨q2, hq3, h⟩ := bd_e h
  obtain ⟨hC4, hS5⟩ := fx_Table_clear hm1 hS hq3
  refine py_vi (pc := 4) (mi := mi_Table_clear) (cs := [29, 35, 41]) (N := mm_Table_clear) rfl rfl rfl rfl hm1 hS rfl (Nat.le_of_ble_eq_true rfl) (Nat.le_of_ble_eq_true rfl) rfl rfl hC4 ?_
  show px_Y mm_Walk_start 7 [(0, .ref 28), (1, .ref c1)] [] q2 _ _
  refine py_its (pc := 7) (pc1 := 8) (lv1 := [(0, .ref 28), (1, .ref c1)]) (st1 := [.ref 28]) 1 (fun _ _ _ _ => rfl) ?_
  refine py_gR [29, 35, 41] (pc := 8) (len := 3) (cs := [28]) rfl rfl rfl List.mem_cons_self hS5 (fun hm6 => ?_)
  refine py_its (pc := 11) (pc1 := 12) (lv1 := [(0, .ref 28), (1, .ref c1)]) (st1 := [.ref c1, .ref (gR q2 28 2)]) 1 (fun _ _ _ _ => rfl) ?_
  refine py_gL (pc := 12) (len := 3) (cs := [19, 20, 47, 66, 67, 68]) rfl rfl rfl hc1 hS5 ?_
  refine py_its (pc := 15) (pc1 := 16) (lv1 := [(0, .ref 28), (1, .ref c1)]) (st1 := [.ref c1, .long (gL q2 c1 0), .ref (gR q2 28 2)]) 1 (fun _ _ _ _ => rfl) ?_
  refine py_gI (pc := 16) (len := 3) (cs := [19, 20, 47, 66, 67, 68]) rfl rfl rfl hc1 hS5 ?_
  refine py_its (pc := 19) (pc1 := 22) (lv1 := [(0, .ref 28), (1, .ref c1)]) (st1 := [.long (Int64.ofInt 1000000000000), .int (gI q2 c1 1), .long (gL q2 c1 0), .ref (gR q2 28 2)]) 1 (fun _ _ _ _ => rfl) ?_
  obtain ⟨q7, hq8, h⟩ := bd_e h
  obtain ⟨hC9, hS10⟩ := fx_Table_add hm6 hS5 hq8
  refine py_vi (pc := 22) (mi := mi_Table_add) (cs := [29, 35, 41]) (N := mm_Table_add) rfl rfl rfl rfl hm6 hS5 rfl (Nat.le_of_ble_eq_true rfl) (Nat.le_of_ble_eq_true rfl) rfl rfl hC9 ?_
  show px_Y mm_Walk_start 25 [(0, .ref 28), (1, .ref c1)] [.int q7.1] q7.2 _ _
  refine py_its (pc := 25) (pc1 := 26) (lv1 := [(0, .ref 28), (1, .ref c1)]) (st1 := []) 1 (fun _ _ _ _ => rfl) ?_
  have h := Option.some.inj h
  subst h
  exact py_rt (pc := 26) (len := 1) rfl rfl hS10
/-! Chest_lay -/
noncomputable def fn_Chest_lay (c0 : Nat) (a1 : Int64) (a2 : Int32) (hp : px_H) : Option (px_H) :=
  sb (wF hp c0 0 (.long a1)) fun h1 =>
  sb (wF h1 c0 1 (.int a2)) fun h3 =>
  some h3
theorem fx_Chest_lay {c0 : Nat} {a1 : Int64} {a2 : Int32} {hp : px_H} {res : px_H} (hc0 : c0 ∈ [19, 20, 47, 66, 67, 68]) (hS : oS hp) (h : fn_Chest_lay c0 a1 a2 hp = some res) : px_C nm_T nm_P mi_Chest_lay [.ref c0, .long a1, .int a2] hp none res ∧ oS res := by
  unfold fn_Chest_lay at h
  refine py_C (M := mm_Chest_lay) rfl (Nat.le_of_ble_eq_true rfl) ?_
  show px_Y mm_Chest_lay 0 [(0, .ref c0), (1, .long a1), (3, .int a2)] [] hp _ _
  refine py_its (pc := 0) (pc1 := 2) (lv1 := [(0, .ref c0), (1, .long a1), (3, .int a2)]) (st1 := [.long a1, .ref c0]) 2 (fun _ _ _ _ => rfl) ?_
  have h := sb_e h
  refine py_pL (pc := 2) (len := 3) (cs := [19, 20, 47, 66, 67, 68]) rfl rfl rfl hc0 hS rfl rfl rfl rfl ?_
  have hS2 : oS (wF hp c0 0 (.long a1)) := oS_wL (cs := [19, 20, 47, 66, 67, 68]) (ci := 0) rfl hc0 hS
  generalize (wF hp c0 0 (.long a1)) = h1 at h hS2 ⊢
  refine py_its (pc := 5) (pc1 := 7) (lv1 := [(0, .ref c0), (1, .long a1), (3, .int a2)]) (st1 := [.int a2, .ref c0]) 2 (fun _ _ _ _ => rfl) ?_
  have h := sb_e h
  refine py_pI (pc := 7) (len := 3) (cs := [19, 20, 47, 66, 67, 68]) rfl rfl rfl hc0 hS2 rfl rfl rfl rfl ?_
  have hS4 : oS (wF h1 c0 1 (.int a2)) := oS_wI (cs := [19, 20, 47, 66, 67, 68]) (ci := 0) rfl hc0 hS2
  generalize (wF h1 c0 1 (.int a2)) = h3 at h hS4 ⊢
  have h := Option.some.inj h
  subst h
  exact py_rt (pc := 10) (len := 1) rfl rfl hS4
/-! Walk_openAll -/
noncomputable def fb_Walk_openAll_L9  (rc : Int32 → px_H → Option (px_H)) (v2 : Int32) (hp : px_H) : Option (px_H) :=
  bif px_cmp .ge v2 (gI hp (gR hp 28 2) 3) then
    (fn_Table_clear (gR hp 28 2) hp).bind fun q9 =>
    some q9
  else
    bif px_inR v2 3000 then
    bif px_inR v2 3000 then
    (fn_Chest_lay 47 (aL hp (gR hp (gR hp 28 2) 0) v2.toNatClampNeg) (aI hp (gR hp (gR hp 28 2) 1) v2.toNatClampNeg) hp).bind fun q19 =>
    (fn_Chest_open 47 q19).bind fun q23 =>
    bif px_inR v2 3000 then
    (fn_Table_add (gR q23 28 0) (gL q23 47 0) (gI q23 47 1) (aL q23 (gR q23 (gR q23 28 2) 2) v2.toNatClampNeg) q23).bind fun q31 =>
    rc (v2 + Int32.ofInt 1) q31.2
    else none
    else none
    else none
noncomputable def fn_Walk_openAll_L9  : Nat → Int32 → px_H → Option (px_H)
  | 0 => fun _ _ => none
  | n + 1 => fb_Walk_openAll_L9  (fn_Walk_openAll_L9  n)
theorem fl_Walk_openAll_L9   : ∀ (n : Nat) (v2 : Int32) (hp : px_H) (lv : List (Nat × Value)) (res : px_H), oS hp → lk lv [(0, .ref 28), (1, .ref 21), (2, .int v2)] → fn_Walk_openAll_L9  n v2 hp = some res → px_Y mm_Walk_openAll 9 lv [] hp none res := by
  intro n
  induction n with
  | zero =>
    intro v2 hp lv res hS hk h
    cases h
  | succ n ih =>
    intro v2 hp lv res hS hk h
    have h : fb_Walk_openAll_L9  (fn_Walk_openAll_L9  n) v2 hp = some res := h
    unfold fb_Walk_openAll_L9 at h
    refine py_iln (pc := 9) (len := 1) (j := 2) rfl hk rfl ?_
    refine py_aln (pc := 10) (len := 1) (j := 0) rfl hk rfl ?_
    refine py_gR [29, 35, 41] (pc := 11) (len := 3) (cs := [28]) rfl rfl rfl List.mem_cons_self hS (fun hm6 => ?_)
    refine py_gI (pc := 14) (len := 3) (cs := [29, 35, 41]) rfl rfl rfl hm6 hS ?_
    cases hb7 : px_cmp .ge v2 (gI hp (gR hp 28 2) 3) with
    | true =>
      have h := cd_t hb7 h
      refine py_ic (pc := 17) (len := 3) true rfl hb7 ?_
      refine py_aln (pc := 90) (len := 1) (j := 0) rfl hk rfl ?_
      refine py_gR [29, 35, 41] (pc := 91) (len := 3) (cs := [28]) rfl rfl rfl List.mem_cons_self hS (fun hm8 => ?_)
      obtain ⟨q9, hq10, h⟩ := bd_e h
      obtain ⟨hC11, hS12⟩ := fx_Table_clear hm8 hS hq10
      refine py_vi (pc := 94) (mi := mi_Table_clear) (cs := [29, 35, 41]) (N := mm_Table_clear) rfl rfl rfl rfl hm8 hS rfl (Nat.le_of_ble_eq_true rfl) (Nat.le_of_ble_eq_true rfl) rfl rfl hC11 ?_
      show px_Y mm_Walk_openAll 97 lv [] q9 _ _
      have h := Option.some.inj h
      subst h
      exact py_rt (pc := 97) (len := 1) rfl rfl hS12
    | false =>
      have h := cd_f hb7 h
      refine py_ic (pc := 17) (len := 3) false rfl hb7 ?_
      refine py_aln (pc := 20) (len := 1) (j := 0) rfl hk rfl ?_
      refine py_g1 47 (pc := 21) (len := 3) (cs := [28]) rfl rfl rfl List.mem_cons_self hS ?_
      refine py_aln (pc := 24) (len := 1) (j := 0) rfl hk rfl ?_
      refine py_gR [29, 35, 41] (pc := 25) (len := 3) (cs := [28]) rfl rfl rfl List.mem_cons_self hS (fun hm13 => ?_)
      refine py_gR [30, 36, 42] (pc := 28) (len := 3) (cs := [29, 35, 41]) rfl rfl rfl hm13 hS (fun hm14 => ?_)
      refine py_iln (pc := 31) (len := 1) (j := 2) rfl hk rfl ?_
      obtain ⟨hi15, h⟩ := cd_n h
      refine py_al (pc := 32) (len := 1) (cs := [30, 36, 42]) (t := 6) (n := 3000) rfl rfl rfl hi15 hm14 hS ?_
      refine py_aln (pc := 33) (len := 1) (j := 0) rfl hk rfl ?_
      refine py_gR [29, 35, 41] (pc := 34) (len := 3) (cs := [28]) rfl rfl rfl List.mem_cons_self hS (fun hm16 => ?_)
      refine py_gR [31, 37, 43] (pc := 37) (len := 3) (cs := [29, 35, 41]) rfl rfl rfl hm16 hS (fun hm17 => ?_)
      refine py_iln (pc := 40) (len := 1) (j := 2) rfl hk rfl ?_
      obtain ⟨hi18, h⟩ := cd_n h
      refine py_ai (pc := 41) (len := 1) (cs := [31, 37, 43]) (t := 7) (n := 3000) rfl rfl rfl hi18 hm17 hS ?_
      obtain ⟨q19, hq20, h⟩ := bd_e h
      obtain ⟨hC21, hS22⟩ := fx_Chest_lay (List.mem_of_elem_eq_true rfl) hS hq20
      refine py_vi (pc := 42) (mi := mi_Chest_lay) (cs := [47]) (N := mm_Chest_lay) rfl rfl rfl rfl List.mem_cons_self hS rfl (Nat.le_of_ble_eq_true rfl) (Nat.le_of_ble_eq_true rfl) rfl rfl hC21 ?_
      show px_Y mm_Walk_openAll 45 lv [] q19 _ _
      refine py_aln (pc := 45) (len := 1) (j := 0) rfl hk rfl ?_
      refine py_g1 47 (pc := 46) (len := 3) (cs := [28]) rfl rfl rfl List.mem_cons_self hS22 ?_
      refine py_aln (pc := 49) (len := 1) (j := 1) rfl hk rfl ?_
      obtain ⟨q23, hq24, h⟩ := bd_e h
      obtain ⟨hC25, hS26⟩ := fx_Chest_open (List.mem_of_elem_eq_true rfl) hS22 hq24
      refine py_vi (pc := 50) (mi := mi_Chest_open) (cs := [47]) (N := mm_Chest_open) rfl rfl rfl rfl List.mem_cons_self hS22 rfl (Nat.le_of_ble_eq_true rfl) (Nat.le_of_ble_eq_true rfl) rfl rfl hC25 ?_
      show px_Y mm_Walk_openAll 53 lv [] q23 _ _
      refine py_aln (pc := 53) (len := 1) (j := 0) rfl hk rfl ?_
      refine py_gR [29, 35, 41] (pc := 54) (len := 3) (cs := [28]) rfl rfl rfl List.mem_cons_self hS26 (fun hm27 => ?_)
      refine py_aln (pc := 57) (len := 1) (j := 0) rfl hk rfl ?_
      refine py_g1 47 (pc := 58) (len := 3) (cs := [28]) rfl rfl rfl List.mem_cons_self hS26 ?_
      refine py_gL (pc := 61) (len := 3) (cs := [47]) rfl rfl rfl List.mem_cons_self hS26 ?_
      refine py_aln (pc := 64) (len := 1) (j := 0) rfl hk rfl ?_
      refine py_g1 47 (pc := 65) (len := 3) (cs := [28]) rfl rfl rfl List.mem_cons_self hS26 ?_
      refine py_gI (pc := 68) (len := 3) (cs := [47]) rfl rfl rfl List.mem_cons_self hS26 ?_
      refine py_aln (pc := 71) (len := 1) (j := 0) rfl hk rfl ?_
      refine py_gR [29, 35, 41] (pc := 72) (len := 3) (cs := [28]) rfl rfl rfl List.mem_cons_self hS26 (fun hm28 => ?_)
      refine py_gR [32, 38, 44] (pc := 75) (len := 3) (cs := [29, 35, 41]) rfl rfl rfl hm28 hS26 (fun hm29 => ?_)
      refine py_iln (pc := 78) (len := 1) (j := 2) rfl hk rfl ?_
      obtain ⟨hi30, h⟩ := cd_n h
      refine py_al (pc := 79) (len := 1) (cs := [32, 38, 44]) (t := 8) (n := 3000) rfl rfl rfl hi30 hm29 hS26 ?_
      obtain ⟨q31, hq32, h⟩ := bd_e h
      obtain ⟨hC33, hS34⟩ := fx_Table_add hm27 hS26 hq32
      refine py_vi (pc := 80) (mi := mi_Table_add) (cs := [29, 35, 41]) (N := mm_Table_add) rfl rfl rfl rfl hm27 hS26 rfl (Nat.le_of_ble_eq_true rfl) (Nat.le_of_ble_eq_true rfl) rfl rfl hC33 ?_
      show px_Y mm_Walk_openAll 83 lv [.int q31.1] q31.2 _ _
      refine py_its (pc := 83) (pc1 := 84) (lv1 := lv) (st1 := []) 1 (fun _ _ _ _ => rfl) ?_
      refine py_inc (pc := 84) (len := 3) (j := 2) (n := 1) rfl rfl hk rfl (fun lv35 hk36 => ?_)
      have hk36 : lk lv35 [(2, .int (v2 + Int32.ofInt 1)), (0, .ref 28), (1, .ref 21)] := hk36
      refine py_its (pc := 87) (pc1 := 9) (lv1 := lv35) (st1 := []) 1 (fun _ _ _ _ => rfl) ?_
      exact ih (v2 + Int32.ofInt 1) q31.2 lv35 _ hS34 ⟨lk_find hk36 rfl, lk_find hk36 rfl, lk_find hk36 rfl, trivial⟩ h
noncomputable def fn_Walk_openAll  (hp : px_H) : Option (px_H) :=
  (fn_Table_clear (gR hp 28 0) hp).bind fun q2 =>
  fn_Walk_openAll_L9 fu (Int32.ofInt 0) q2
theorem fx_Walk_openAll  {hp : px_H} {res : px_H} (hS : oS hp) (h : fn_Walk_openAll hp = some res) : px_C nm_T nm_P mi_Walk_openAll [.ref 28, .ref 21] hp none res ∧ oS res := by
  unfold fn_Walk_openAll at h
  refine py_C (M := mm_Walk_openAll) rfl (Nat.le_of_ble_eq_true rfl) ?_
  show px_Y mm_Walk_openAll 0 [(0, .ref 28), (1, .ref 21)] [] hp _ _
  refine py_its (pc := 0) (pc1 := 1) (lv1 := [(0, .ref 28), (1, .ref 21)]) (st1 := [.ref 28]) 1 (fun _ _ _ _ => rfl) ?_
  refine py_gR [29, 35, 41] (pc := 1) (len := 3) (cs := [28]) rfl rfl rfl List.mem_cons_self hS (fun hm1 => ?_)
  obtain ⟨q2, hq3, h⟩ := bd_e h
  obtain ⟨hC4, hS5⟩ := fx_Table_clear hm1 hS hq3
  refine py_vi (pc := 4) (mi := mi_Table_clear) (cs := [29, 35, 41]) (N := mm_Table_clear) rfl rfl rfl rfl hm1 hS rfl (Nat.le_of_ble_eq_true rfl) (Nat.le_of_ble_eq_true rfl) rfl rfl hC4 ?_
  show px_Y mm_Walk_openAll 7 [(0, .ref 28), (1, .ref 21)] [] q2 _ _
  refine py_its (pc := 7) (pc1 := 9) (lv1 := [(2, .int (Int32.ofInt 0)), (0, .ref 28), (1, .ref 21)]) (st1 := []) 2 (fun _ _ _ _ => rfl) ?_
  exact fl_Walk_openAll_L9 fu (Int32.ofInt 0) q2 [(2, .int (Int32.ofInt 0)), (0, .ref 28), (1, .ref 21)] _ hS5 ⟨rfl, rfl, rfl, trivial⟩ h
/-! Walk_drawEach -/
noncomputable def fb_Walk_drawEach_L83 (v2 : Int32) (v3 : Int32) (v5 : Int64) (rc : Int32 → px_H → Option (Int32 × px_H)) (v7 : Int32) (hp : px_H) : Option (Int32 × px_H) :=
  bif px_cmp .ge v7 (Int8.ofInt 10).toInt32 then
    some ((Int32.ofInt 1), hp)
  else
    bif px_cmp .ne ((v3 >>> (v7 &&& 31)) &&& (Int32.ofInt 1)) 0 then
      bif px_inR v2 3000 then
      bif px_inR v2 3000 then
      (fn_Chest_lay 47 (aL hp (gR hp (gR hp 28 0) 0) v2.toNatClampNeg) (aI hp (gR hp (gR hp 28 0) 1) v2.toNatClampNeg) hp).bind fun q41 =>
      (fn_Chest_takeOut 47 v7 q41).bind fun q45 =>
      bif px_cmp .ne q45.1 0 then
        (fn_Table_add (gR q45.2 28 1) (gL q45.2 47 0) (gI q45.2 47 1) v5 q45.2).bind fun q51 =>
        bif px_cmp .ne q51.1 0 then
          rc (v7 + Int32.ofInt 1) q51.2
        else
          some ((Int32.ofInt 0), q51.2)
      else
        sb (wF q45.2 28 5 (.long ((gL q45.2 28 5) + v5))) fun h58 =>
        (fn_Table_add (gR h58 28 1) (gL h58 47 0) (gI h58 47 1) v5 h58).bind fun q61 =>
        bif px_cmp .ne q61.1 0 then
          rc (v7 + Int32.ofInt 1) q61.2
        else
          some ((Int32.ofInt 0), q61.2)
      else none
      else none
    else
      rc (v7 + Int32.ofInt 1) hp
noncomputable def fn_Walk_drawEach_L83 (v2 : Int32) (v3 : Int32) (v5 : Int64) : Nat → Int32 → px_H → Option (Int32 × px_H)
  | 0 => fun _ _ => none
  | n + 1 => fb_Walk_drawEach_L83 v2 v3 v5 (fn_Walk_drawEach_L83 v2 v3 v5 n)
theorem fl_Walk_drawEach_L83 {v2 : Int32} {v3 : Int32} {v5 : Int64}  : ∀ (n : Nat) (v7 : Int32) (hp : px_H) (lv : List (Nat × Value)) (res : Int32 × px_H), oS hp → lk lv [(0, .ref 28), (1, .ref 21), (2, .int v2), (3, .int v3), (5, .long v5), (7, .int v7)] → fn_Walk_drawEach_L83 v2 v3 v5 n v7 hp = some res → px_Y mm_Walk_drawEach 83 lv [] hp (some (.int res.1)) res.2 := by
  intro n
  induction n with
  | zero =>
    intro v7 hp lv res hS hk h
    cases h
  | succ n ih =>
    intro v7 hp lv res hS hk h
    have h : fb_Walk_drawEach_L83 v2 v3 v5 (fn_Walk_drawEach_L83 v2 v3 v5 n) v7 hp = some res := h
    unfold fb_Walk_drawEach_L83 at h
    refine py_il (pc := 83) (len := 2) (j := 7) rfl hk rfl ?_
    refine py_its (pc := 85) (pc1 := 87) (lv1 := lv) (st1 := [.int (Int8.ofInt 10).toInt32, .int v7]) 1 (fun _ _ _ _ => rfl) ?_
    cases hb33 : px_cmp .ge v7 (Int8.ofInt 10).toInt32 with
    | true =>
      have h := cd_t hb33 h
      refine py_ic (pc := 87) (len := 3) true rfl hb33 ?_
      refine py_its (pc := 185) (pc1 := 186) (lv1 := lv) (st1 := [.int (Int32.ofInt 1)]) 1 (fun _ _ _ _ => rfl) ?_
      have h := Option.some.inj h
      subst h
      exact py_ir (pc := 186) (len := 1) (ty := .boolean) rfl rfl (by decide) hS
    | false =>
      have h := cd_f hb33 h
      refine py_ic (pc := 87) (len := 3) false rfl hb33 ?_
      refine py_iln (pc := 90) (len := 1) (j := 3) rfl hk rfl ?_
      refine py_il (pc := 91) (len := 2) (j := 7) rfl hk rfl ?_
      refine py_its (pc := 93) (pc1 := 96) (lv1 := lv) (st1 := [.int ((v3 >>> (v7 &&& 31)) &&& (Int32.ofInt 1))]) 3 (fun _ _ _ _ => rfl) ?_
      cases hb34 : px_cmp .ne ((v3 >>> (v7 &&& 31)) &&& (Int32.ofInt 1)) 0 with
      | true =>
        have h := cd_t hb34 h
        refine py_if (pc := 96) (len := 3) true rfl hb34 ?_
        refine py_aln (pc := 102) (len := 1) (j := 0) rfl hk rfl ?_
        refine py_g1 47 (pc := 103) (len := 3) (cs := [28]) rfl rfl rfl List.mem_cons_self hS ?_
        refine py_aln (pc := 106) (len := 1) (j := 0) rfl hk rfl ?_
        refine py_gR [29, 35, 41] (pc := 107) (len := 3) (cs := [28]) rfl rfl rfl List.mem_cons_self hS (fun hm35 => ?_)
        refine py_gR [30, 36, 42] (pc := 110) (len := 3) (cs := [29, 35, 41]) rfl rfl rfl hm35 hS (fun hm36 => ?_)
        refine py_iln (pc := 113) (len := 1) (j := 2) rfl hk rfl ?_
        obtain ⟨hi37, h⟩ := cd_n h
        refine py_al (pc := 114) (len := 1) (cs := [30, 36, 42]) (t := 6) (n := 3000) rfl rfl rfl hi37 hm36 hS ?_
        refine py_aln (pc := 115) (len := 1) (j := 0) rfl hk rfl ?_
        refine py_gR [29, 35, 41] (pc := 116) (len := 3) (cs := [28]) rfl rfl rfl List.mem_cons_self hS (fun hm38 => ?_)
        refine py_gR [31, 37, 43] (pc := 119) (len := 3) (cs := [29, 35, 41]) rfl rfl rfl hm38 hS (fun hm39 => ?_)
        refine py_iln (pc := 122) (len := 1) (j := 2) rfl hk rfl ?_
        obtain ⟨hi40, h⟩ := cd_n h
        refine py_ai (pc := 123) (len := 1) (cs := [31, 37, 43]) (t := 7) (n := 3000) rfl rfl rfl hi40 hm39 hS ?_
        obtain ⟨q41, hq42, h⟩ := bd_e h
        obtain ⟨hC43, hS44⟩ := fx_Chest_lay (List.mem_of_elem_eq_true rfl) hS hq42
        refine py_vi (pc := 124) (mi := mi_Chest_lay) (cs := [47]) (N := mm_Chest_lay) rfl rfl rfl rfl List.mem_cons_self hS rfl (Nat.le_of_ble_eq_true rfl) (Nat.le_of_ble_eq_true rfl) rfl rfl hC43 ?_
        show px_Y mm_Walk_drawEach 127 lv [] q41 _ _
        refine py_aln (pc := 127) (len := 1) (j := 0) rfl hk rfl ?_
        refine py_g1 47 (pc := 128) (len := 3) (cs := [28]) rfl rfl rfl List.mem_cons_self hS44 ?_
        refine py_aln (pc := 131) (len := 1) (j := 1) rfl hk rfl ?_
        refine py_il (pc := 132) (len := 2) (j := 7) rfl hk rfl ?_
        obtain ⟨q45, hq46, h⟩ := bd_e h
        obtain ⟨hC47, hS48⟩ := fx_Chest_takeOut (List.mem_of_elem_eq_true rfl) hS44 hq46
        refine py_vi (pc := 134) (mi := mi_Chest_takeOut) (cs := [47]) (N := mm_Chest_takeOut) rfl rfl rfl rfl List.mem_cons_self hS44 rfl (Nat.le_of_ble_eq_true rfl) (Nat.le_of_ble_eq_true rfl) rfl rfl hC47 ?_
        show px_Y mm_Walk_drawEach 137 lv [.int q45.1] q45.2 _ _
        cases hb49 : px_cmp .ne q45.1 0 with
        | true =>
          have h := cd_t hb49 h
          refine py_if (pc := 137) (len := 3) true rfl hb49 ?_
          refine py_aln (pc := 151) (len := 1) (j := 0) rfl hk rfl ?_
          refine py_gR [29, 35, 41] (pc := 152) (len := 3) (cs := [28]) rfl rfl rfl List.mem_cons_self hS48 (fun hm50 => ?_)
          refine py_aln (pc := 155) (len := 1) (j := 0) rfl hk rfl ?_
          refine py_g1 47 (pc := 156) (len := 3) (cs := [28]) rfl rfl rfl List.mem_cons_self hS48 ?_
          refine py_gL (pc := 159) (len := 3) (cs := [47]) rfl rfl rfl List.mem_cons_self hS48 ?_
          refine py_aln (pc := 162) (len := 1) (j := 0) rfl hk rfl ?_
          refine py_g1 47 (pc := 163) (len := 3) (cs := [28]) rfl rfl rfl List.mem_cons_self hS48 ?_
          refine py_gI (pc := 166) (len := 3) (cs := [47]) rfl rfl rfl List.mem_cons_self hS48 ?_
          refine py_ll (pc := 169) (len := 2) (j := 5) rfl hk rfl ?_
          obtain ⟨q51, hq52, h⟩ := bd_e h
          obtain ⟨hC53, hS54⟩ := fx_Table_add hm50 hS48 hq52
          refine py_vi (pc := 171) (mi := mi_Table_add) (cs := [29, 35, 41]) (N := mm_Table_add) rfl rfl rfl rfl hm50 hS48 rfl (Nat.le_of_ble_eq_true rfl) (Nat.le_of_ble_eq_true rfl) rfl rfl hC53 ?_
          show px_Y mm_Walk_drawEach 174 lv [.int q51.1] q51.2 _ _
          cases hb55 : px_cmp .ne q51.1 0 with
          | true =>
            have h := cd_t hb55 h
            refine py_if (pc := 174) (len := 3) true rfl hb55 ?_
            refine py_inc (pc := 179) (len := 3) (j := 7) (n := 1) rfl rfl hk rfl (fun lv56 hk57 => ?_)
            have hk57 : lk lv56 [(7, .int (v7 + Int32.ofInt 1)), (0, .ref 28), (1, .ref 21), (2, .int v2), (3, .int v3), (5, .long v5)] := hk57
            refine py_its (pc := 182) (pc1 := 83) (lv1 := lv56) (st1 := []) 1 (fun _ _ _ _ => rfl) ?_
            exact ih (v7 + Int32.ofInt 1) q51.2 lv56 _ hS54 ⟨lk_find hk57 rfl, lk_find hk57 rfl, lk_find hk57 rfl, lk_find hk57 rfl, lk_find hk57 rfl, lk_find hk57 rfl, trivial⟩ h
          | false =>
            have h := cd_f hb55 h
            refine py_if (pc := 174) (len := 3) false rfl hb55 ?_
            refine py_its (pc := 177) (pc1 := 178) (lv1 := lv) (st1 := [.int (Int32.ofInt 0)]) 1 (fun _ _ _ _ => rfl) ?_
            have h := Option.some.inj h
            subst h
            exact py_ir (pc := 178) (len := 1) (ty := .boolean) rfl rfl (by decide) hS54
        | false =>
          have h := cd_f hb49 h
          refine py_if (pc := 137) (len := 3) false rfl hb49 ?_
          refine py_aln (pc := 140) (len := 1) (j := 0) rfl hk rfl ?_
          refine py_its (pc := 141) (pc1 := 142) (lv1 := lv) (st1 := [.ref 28, .ref 28]) 1 (fun _ _ _ _ => rfl) ?_
          refine py_gL (pc := 142) (len := 3) (cs := [28]) rfl rfl rfl List.mem_cons_self hS48 ?_
          refine py_ll (pc := 145) (len := 2) (j := 5) rfl hk rfl ?_
          refine py_its (pc := 147) (pc1 := 148) (lv1 := lv) (st1 := [.long ((gL q45.2 28 5) + v5), .ref 28]) 1 (fun _ _ _ _ => rfl) ?_
          have h := sb_e h
          refine py_pL (pc := 148) (len := 3) (cs := [28]) rfl rfl rfl List.mem_cons_self hS48 rfl rfl rfl rfl ?_
          have hS59 : oS (wF q45.2 28 5 (.long ((gL q45.2 28 5) + v5))) := oS_wL (cs := [28]) (ci := 7) rfl List.mem_cons_self hS48
          generalize (wF q45.2 28 5 (.long ((gL q45.2 28 5) + v5))) = h58 at h hS59 ⊢
          refine py_aln (pc := 151) (len := 1) (j := 0) rfl hk rfl ?_
          refine py_gR [29, 35, 41] (pc := 152) (len := 3) (cs := [28]) rfl rfl rfl List.mem_cons_self hS59 (fun hm60 => ?_)
          refine py_aln (pc := 155) (len := 1) (j := 0) rfl hk rfl ?_
          refine py_g1 47 (pc := 156) (len := 3) (cs := [28]) rfl rfl rfl List.mem_cons_self hS59 ?_
          refine py_gL (pc := 159) (len := 3) (cs := [47]) rfl rfl rfl List.mem_cons_self hS59 ?_
          refine py_aln (pc := 162) (len := 1) (j := 0) rfl hk rfl ?_
          refine py_g1 47 (pc := 163) (len := 3) (cs := [28]) rfl rfl rfl List.mem_cons_self hS59 ?_
          refine py_gI (pc := 166) (len := 3) (cs := [47]) rfl rfl rfl List.mem_cons_self hS59 ?_
          refine py_ll (pc := 169) (len := 2) (j := 5) rfl hk rfl ?_
          obtain ⟨q61, hq62, h⟩ := bd_e h
          obtain ⟨hC63, hS64⟩ := fx_Table_add hm60 hS59 hq62
          refine py_vi (pc := 171) (mi := mi_Table_add) (cs := [29, 35, 41]) (N := mm_Table_add) rfl rfl rfl rfl hm60 hS59 rfl (Nat.le_of_ble_eq_true rfl) (Nat.le_of_ble_eq_true rfl) rfl rfl hC63 ?_
          show px_Y mm_Walk_drawEach 174 lv [.int q61.1] q61.2 _ _
          cases hb65 : px_cmp .ne q61.1 0 with
          | true =>
            have h := cd_t hb65 h
            refine py_if (pc := 174) (len := 3) true rfl hb65 ?_
            refine py_inc (pc := 179) (len := 3) (j := 7) (n := 1) rfl rfl hk rfl (fun lv66 hk67 => ?_)
            have hk67 : lk lv66 [(7, .int (v7 + Int32.ofInt 1)), (0, .ref 28), (1, .ref 21), (2, .int v2), (3, .int v3), (5, .long v5)] := hk67
            refine py_its (pc := 182) (pc1 := 83) (lv1 := lv66) (st1 := []) 1 (fun _ _ _ _ => rfl) ?_
            exact ih (v7 + Int32.ofInt 1) q61.2 lv66 _ hS64 ⟨lk_find hk67 rfl, lk_find hk67 rfl, lk_find hk67 rfl, lk_find hk67 rfl, lk_find hk67 rfl, lk_find hk67 rfl, trivial⟩ h
          | false =>
            have h := cd_f hb65 h
            refine py_if (pc := 174) (len := 3) false rfl hb65 ?_
            refine py_its (pc := 177) (pc1 := 178) (lv1 := lv) (st1 := [.int (Int32.ofInt 0)]) 1 (fun _ _ _ _ => rfl) ?_
            have h := Option.some.inj h
            subst h
            exact py_ir (pc := 178) (len := 1) (ty := .boolean) rfl rfl (by decide) hS64
      | false =>
        have h := cd_f hb34 h
        refine py_if (pc := 96) (len := 3) false rfl hb34 ?_
        refine py_its (pc := 99) (pc1 := 179) (lv1 := lv) (st1 := []) 1 (fun _ _ _ _ => rfl) ?_
        refine py_inc (pc := 179) (len := 3) (j := 7) (n := 1) rfl rfl hk rfl (fun lv68 hk69 => ?_)
        have hk69 : lk lv68 [(7, .int (v7 + Int32.ofInt 1)), (0, .ref 28), (1, .ref 21), (2, .int v2), (3, .int v3), (5, .long v5)] := hk69
        refine py_its (pc := 182) (pc1 := 83) (lv1 := lv68) (st1 := []) 1 (fun _ _ _ _ => rfl) ?_
        exact ih (v7 + Int32.ofInt 1) hp lv68 _ hS ⟨lk_find hk69 rfl, lk_find hk69 rfl, lk_find hk69 rfl, lk_find hk69 rfl, lk_find hk69 rfl, lk_find hk69 rfl, trivial⟩ h
noncomputable def fn_Walk_drawEach (a2 : Int32) (hp : px_H) : Option (Int32 × px_H) :=
  (fn_Chest_part 47 (gI hp 21 5) hp).bind fun q1 =>
  bif px_cmp .le (nm_bc q1) 0 then
    bif px_inR a2 3000 then
    sb (wF hp 28 4 (.long ((gL hp 28 4) + (aL hp (gR hp (gR hp 28 0) 2) a2.toNatClampNeg)))) fun h8 =>
    (fn_Chest_part 47 (Int32.ofInt 5) h8).bind fun q10 =>
    (fn_Course_foretell q1 q10 (gI h8 47 1) h8).bind fun q13 =>
    fn_Walk_drawEach_L83 a2 q1 (Int64.ofNat 0) fu (Int32.ofInt 0) q13
    else none
  else
    bif px_inR a2 3000 then
    bif decide ((nm_bc q1).toInt64 = 0) then none else
    bif px_inR a2 3000 then
    sb (wF hp 28 4 (.long ((gL hp 28 4) + (aL hp (gR hp (gR hp 28 0) 2) a2.toNatClampNeg)))) fun h24 =>
    (fn_Chest_part 47 (Int32.ofInt 5) h24).bind fun q26 =>
    (fn_Course_foretell q1 q26 (gI h24 47 1) h24).bind fun q29 =>
    fn_Walk_drawEach_L83 a2 q1 ((aL hp (gR hp (gR hp 28 0) 2) a2.toNatClampNeg) / (nm_bc q1).toInt64) fu (Int32.ofInt 0) q29
    else none
    else none
theorem fx_Walk_drawEach {a2 : Int32} {hp : px_H} {res : Int32 × px_H} (hS : oS hp) (h : fn_Walk_drawEach a2 hp = some res) : px_C nm_T nm_P mi_Walk_drawEach [.ref 28, .ref 21, .int a2] hp (some (.int res.1)) res.2 ∧ oS res.2 := by
  unfold fn_Walk_drawEach at h
  refine py_C (M := mm_Walk_drawEach) rfl (Nat.le_of_ble_eq_true rfl) ?_
  show px_Y mm_Walk_drawEach 0 [(0, .ref 28), (1, .ref 21), (2, .int a2)] [] hp _ _
  refine py_its (pc := 0) (pc1 := 1) (lv1 := [(0, .ref 28), (1, .ref 21), (2, .int a2)]) (st1 := [.ref 28]) 1 (fun _ _ _ _ => rfl) ?_
  refine py_g1 47 (pc := 1) (len := 3) (cs := [28]) rfl rfl rfl List.mem_cons_self hS ?_
  refine py_its (pc := 4) (pc1 := 5) (lv1 := [(0, .ref 28), (1, .ref 21), (2, .int a2)]) (st1 := [.ref 21, .ref 47]) 1 (fun _ _ _ _ => rfl) ?_
  refine py_gI (pc := 5) (len := 3) (cs := [21]) rfl rfl rfl List.mem_cons_self hS ?_
  obtain ⟨q1, hq2, h⟩ := bd_e h
  have hC3 := (fx_Chest_part (List.mem_of_elem_eq_true rfl) hS hq2).1
  refine py_vi (pc := 8) (mi := mi_Chest_part) (cs := [47]) (N := mm_Chest_part) rfl rfl rfl rfl List.mem_cons_self hS rfl (Nat.le_of_ble_eq_true rfl) (Nat.le_of_ble_eq_true rfl) rfl rfl hC3 ?_
  show px_Y mm_Walk_drawEach 11 [(0, .ref 28), (1, .ref 21), (2, .int a2)] [.int q1] hp _ _
  refine py_its (pc := 11) (pc1 := 13) (lv1 := [(3, .int q1), (0, .ref 28), (1, .ref 21), (2, .int a2)]) (st1 := [.int q1]) 2 (fun _ _ _ _ => rfl) ?_
  refine py_st (pc := 13) (mi := mi_I_bitCount) (N := mm_I_bitCount) rfl rfl rfl (Nat.le_of_ble_eq_true rfl) (Nat.le_of_ble_eq_true rfl) rfl rfl (nm_bc_C q1 hp) ?_
  show px_Y mm_Walk_drawEach 16 [(3, .int q1), (0, .ref 28), (1, .ref 21), (2, .int a2)] [.int (nm_bc q1)] hp _ _
  refine py_its (pc := 16) (pc1 := 20) (lv1 := [(4, .int (nm_bc q1)), (3, .int q1), (0, .ref 28), (1, .ref 21), (2, .int a2)]) (st1 := [.int (nm_bc q1)]) 2 (fun _ _ _ _ => rfl) ?_
  cases hb4 : px_cmp .le (nm_bc q1) 0 with
  | true =>
    have h := cd_t hb4 h
    refine py_if (pc := 20) (len := 3) true rfl hb4 ?_
    refine py_its (pc := 39) (pc1 := 44) (lv1 := [(5, .long (Int64.ofNat 0)), (4, .int (nm_bc q1)), (3, .int q1), (0, .ref 28), (1, .ref 21), (2, .int a2)]) (st1 := [.ref 28, .ref 28]) 4 (fun _ _ _ _ => rfl) ?_
    refine py_gL (pc := 44) (len := 3) (cs := [28]) rfl rfl rfl List.mem_cons_self hS ?_
    refine py_its (pc := 47) (pc1 := 48) (lv1 := [(5, .long (Int64.ofNat 0)), (4, .int (nm_bc q1)), (3, .int q1), (0, .ref 28), (1, .ref 21), (2, .int a2)]) (st1 := [.ref 28, .long (gL hp 28 4), .ref 28]) 1 (fun _ _ _ _ => rfl) ?_
    refine py_gR [29, 35, 41] (pc := 48) (len := 3) (cs := [28]) rfl rfl rfl List.mem_cons_self hS (fun hm5 => ?_)
    refine py_gR [32, 38, 44] (pc := 51) (len := 3) (cs := [29, 35, 41]) rfl rfl rfl hm5 hS (fun hm6 => ?_)
    refine py_its (pc := 54) (pc1 := 55) (lv1 := [(5, .long (Int64.ofNat 0)), (4, .int (nm_bc q1)), (3, .int q1), (0, .ref 28), (1, .ref 21), (2, .int a2)]) (st1 := [.int a2, .ref (gR hp (gR hp 28 0) 2), .long (gL hp 28 4), .ref 28]) 1 (fun _ _ _ _ => rfl) ?_
    obtain ⟨hi7, h⟩ := cd_n h
    refine py_al (pc := 55) (len := 1) (cs := [32, 38, 44]) (t := 8) (n := 3000) rfl rfl rfl hi7 hm6 hS ?_
    refine py_its (pc := 56) (pc1 := 57) (lv1 := [(5, .long (Int64.ofNat 0)), (4, .int (nm_bc q1)), (3, .int q1), (0, .ref 28), (1, .ref 21), (2, .int a2)]) (st1 := [.long ((gL hp 28 4) + (aL hp (gR hp (gR hp 28 0) 2) a2.toNatClampNeg)), .ref 28]) 1 (fun _ _ _ _ => rfl) ?_
    have h := sb_e h
    refine py_pL (pc := 57) (len := 3) (cs := [28]) rfl rfl rfl List.mem_cons_self hS rfl rfl rfl rfl ?_
    have hS9 : oS (wF hp 28 4 (.long ((gL hp 28 4) + (aL hp (gR hp (gR hp 28 0) 2) a2.toNatClampNeg)))) := oS_wL (cs := [28]) (ci := 7) rfl List.mem_cons_self hS
    generalize (wF hp 28 4 (.long ((gL hp 28 4) + (aL hp (gR hp (gR hp 28 0) 2) a2.toNatClampNeg)))) = h8 at h hS9 ⊢
    refine py_its (pc := 60) (pc1 := 63) (lv1 := [(5, .long (Int64.ofNat 0)), (4, .int (nm_bc q1)), (3, .int q1), (0, .ref 28), (1, .ref 21), (2, .int a2)]) (st1 := [.ref 28, .int q1, .ref 21]) 3 (fun _ _ _ _ => rfl) ?_
    refine py_g1 47 (pc := 63) (len := 3) (cs := [28]) rfl rfl rfl List.mem_cons_self hS9 ?_
    refine py_its (pc := 66) (pc1 := 67) (lv1 := [(5, .long (Int64.ofNat 0)), (4, .int (nm_bc q1)), (3, .int q1), (0, .ref 28), (1, .ref 21), (2, .int a2)]) (st1 := [.int (Int32.ofInt 5), .ref 47, .int q1, .ref 21]) 1 (fun _ _ _ _ => rfl) ?_
    obtain ⟨q10, hq11, h⟩ := bd_e h
    have hC12 := (fx_Chest_part (List.mem_of_elem_eq_true rfl) hS9 hq11).1
    refine py_vi (pc := 67) (mi := mi_Chest_part) (cs := [47]) (N := mm_Chest_part) rfl rfl rfl rfl List.mem_cons_self hS9 rfl (Nat.le_of_ble_eq_true rfl) (Nat.le_of_ble_eq_true rfl) rfl rfl hC12 ?_
    show px_Y mm_Walk_drawEach 70 [(5, .long (Int64.ofNat 0)), (4, .int (nm_bc q1)), (3, .int q1), (0, .ref 28), (1, .ref 21), (2, .int a2)] [.int q10, .int q1, .ref 21] h8 _ _
    refine py_its (pc := 70) (pc1 := 71) (lv1 := [(5, .long (Int64.ofNat 0)), (4, .int (nm_bc q1)), (3, .int q1), (0, .ref 28), (1, .ref 21), (2, .int a2)]) (st1 := [.ref 28, .int q10, .int q1, .ref 21]) 1 (fun _ _ _ _ => rfl) ?_
    refine py_g1 47 (pc := 71) (len := 3) (cs := [28]) rfl rfl rfl List.mem_cons_self hS9 ?_
    refine py_gI (pc := 74) (len := 3) (cs := [47]) rfl rfl rfl List.mem_cons_self hS9 ?_
    obtain ⟨q13, hq14, h⟩ := bd_e h
    obtain ⟨hC15, hS16⟩ := fx_Course_foretell hS9 hq14
    refine py_vi (pc := 77) (mi := mi_Course_foretell) (cs := [21]) (N := mm_Course_foretell) rfl rfl rfl rfl List.mem_cons_self hS9 rfl (Nat.le_of_ble_eq_true rfl) (Nat.le_of_ble_eq_true rfl) rfl rfl hC15 ?_
    show px_Y mm_Walk_drawEach 80 [(5, .long (Int64.ofNat 0)), (4, .int (nm_bc q1)), (3, .int q1), (0, .ref 28), (1, .ref 21), (2, .int a2)] [] q13 _ _
    refine py_its (pc := 80) (pc1 := 83) (lv1 := [(7, .int (Int32.ofInt 0)), (5, .long (Int64.ofNat 0)), (4, .int (nm_bc q1)), (3, .int q1), (0, .ref 28), (1, .ref 21), (2, .int a2)]) (st1 := []) 2 (fun _ _ _ _ => rfl) ?_
    exact fl_Walk_drawEach_L83 fu (Int32.ofInt 0) q13 [(7, .int (Int32.ofInt 0)), (5, .long (Int64.ofNat 0)), (4, .int (nm_bc q1)), (3, .int q1), (0, .ref 28), (1, .ref 21), (2, .int a2)] _ hS16 ⟨rfl, rfl, rfl, rfl, rfl, rfl, trivial⟩ h
  | false =>
    have h := cd_f hb4 h
    refine py_if (pc := 20) (len := 3) false rfl hb4 ?_
    refine py_its (pc := 23) (pc1 := 24) (lv1 := [(4, .int (nm_bc q1)), (3, .int q1), (0, .ref 28), (1, .ref 21), (2, .int a2)]) (st1 := [.ref 28]) 1 (fun _ _ _ _ => rfl) ?_
    refine py_gR [29, 35, 41] (pc := 24) (len := 3) (cs := [28]) rfl rfl rfl List.mem_cons_self hS (fun hm17 => ?_)
    refine py_gR [32, 38, 44] (pc := 27) (len := 3) (cs := [29, 35, 41]) rfl rfl rfl hm17 hS (fun hm18 => ?_)
    refine py_its (pc := 30) (pc1 := 31) (lv1 := [(4, .int (nm_bc q1)), (3, .int q1), (0, .ref 28), (1, .ref 21), (2, .int a2)]) (st1 := [.int a2, .ref (gR hp (gR hp 28 0) 2)]) 1 (fun _ _ _ _ => rfl) ?_
    obtain ⟨hi19, h⟩ := cd_n h
    refine py_al (pc := 31) (len := 1) (cs := [32, 38, 44]) (t := 8) (n := 3000) rfl rfl rfl hi19 hm18 hS ?_
    refine py_its (pc := 32) (pc1 := 35) (lv1 := [(4, .int (nm_bc q1)), (3, .int q1), (0, .ref 28), (1, .ref 21), (2, .int a2)]) (st1 := [.long (nm_bc q1).toInt64, .long (aL hp (gR hp (gR hp 28 0) 2) a2.toNatClampNeg)]) 2 (fun _ _ _ _ => rfl) ?_
    obtain ⟨hz20, h⟩ := cd_m h
    refine py_div (pc := 35) (len := 1) rfl hz20 ?_
    refine py_its (pc := 36) (pc1 := 44) (lv1 := [(5, .long ((aL hp (gR hp (gR hp 28 0) 2) a2.toNatClampNeg) / (nm_bc q1).toInt64)), (4, .int (nm_bc q1)), (3, .int q1), (0, .ref 28), (1, .ref 21), (2, .int a2)]) (st1 := [.ref 28, .ref 28]) 4 (fun _ _ _ _ => rfl) ?_
    refine py_gL (pc := 44) (len := 3) (cs := [28]) rfl rfl rfl List.mem_cons_self hS ?_
    refine py_its (pc := 47) (pc1 := 48) (lv1 := [(5, .long ((aL hp (gR hp (gR hp 28 0) 2) a2.toNatClampNeg) / (nm_bc q1).toInt64)), (4, .int (nm_bc q1)), (3, .int q1), (0, .ref 28), (1, .ref 21), (2, .int a2)]) (st1 := [.ref 28, .long (gL hp 28 4), .ref 28]) 1 (fun _ _ _ _ => rfl) ?_
    refine py_gR [29, 35, 41] (pc := 48) (len := 3) (cs := [28]) rfl rfl rfl List.mem_cons_self hS (fun hm21 => ?_)
    refine py_gR [32, 38, 44] (pc := 51) (len := 3) (cs := [29, 35, 41]) rfl rfl rfl hm21 hS (fun hm22 => ?_)
    refine py_its (pc := 54) (pc1 := 55) (lv1 := [(5, .long ((aL hp (gR hp (gR hp 28 0) 2) a2.toNatClampNeg) / (nm_bc q1).toInt64)), (4, .int (nm_bc q1)), (3, .int q1), (0, .ref 28), (1, .ref 21), (2, .int a2)]) (st1 := [.int a2, .ref (gR hp (gR hp 28 0) 2), .long (gL hp 28 4), .ref 28]) 1 (fun _ _ _ _ => rfl) ?_
    obtain ⟨hi23, h⟩ := cd_n h
    refine py_al (pc := 55) (len := 1) (cs := [32, 38, 44]) (t := 8) (n := 3000) rfl rfl rfl hi23 hm22 hS ?_
    refine py_its (pc := 56) (pc1 := 57) (lv1 := [(5, .long ((aL hp (gR hp (gR hp 28 0) 2) a2.toNatClampNeg) / (nm_bc q1).toInt64)), (4, .int (nm_bc q1)), (3, .int q1), (0, .ref 28), (1, .ref 21), (2, .int a2)]) (st1 := [.long ((gL hp 28 4) + (aL hp (gR hp (gR hp 28 0) 2) a2.toNatClampNeg)), .ref 28]) 1 (fun _ _ _ _ => rfl) ?_
    have h := sb_e h
    refine py_pL (pc := 57) (len := 3) (cs := [28]) rfl rfl rfl List.mem_cons_self hS rfl rfl rfl rfl ?_
    have hS25 : oS (wF hp 28 4 (.long ((gL hp 28 4) + (aL hp (gR hp (gR hp 28 0) 2) a2.toNatClampNeg)))) := oS_wL (cs := [28]) (ci := 7) rfl List.mem_cons_self hS
    generalize (wF hp 28 4 (.long ((gL hp 28 4) + (aL hp (gR hp (gR hp 28 0) 2) a2.toNatClampNeg)))) = h24 at h hS25 ⊢
    refine py_its (pc := 60) (pc1 := 63) (lv1 := [(5, .long ((aL hp (gR hp (gR hp 28 0) 2) a2.toNatClampNeg) / (nm_bc q1).toInt64)), (4, .int (nm_bc q1)), (3, .int q1), (0, .ref 28), (1, .ref 21), (2, .int a2)]) (st1 := [.ref 28, .int q1, .ref 21]) 3 (fun _ _ _ _ => rfl) ?_
    refine py_g1 47 (pc := 63) (len := 3) (cs := [28]) rfl rfl rfl List.mem_cons_self hS25 ?_
    refine py_its (pc := 66) (pc1 := 67) (lv1 := [(5, .long ((aL hp (gR hp (gR hp 28 0) 2) a2.toNatClampNeg) / (nm_bc q1).toInt64)), (4, .int (nm_bc q1)), (3, .int q1), (0, .ref 28), (1, .ref 21), (2, .int a2)]) (st1 := [.int (Int32.ofInt 5), .ref 47, .int q1, .ref 21]) 1 (fun _ _ _ _ => rfl) ?_
    obtain ⟨q26, hq27, h⟩ := bd_e h
    have hC28 := (fx_Chest_part (List.mem_of_elem_eq_true rfl) hS25 hq27).1
    refine py_vi (pc := 67) (mi := mi_Chest_part) (cs := [47]) (N := mm_Chest_part) rfl rfl rfl rfl List.mem_cons_self hS25 rfl (Nat.le_of_ble_eq_true rfl) (Nat.le_of_ble_eq_true rfl) rfl rfl hC28 ?_
    show px_Y mm_Walk_drawEach 70 [(5, .long ((aL hp (gR hp (gR hp 28 0) 2) a2.toNatClampNeg) / (nm_bc q1).toInt64)), (4, .int (nm_bc q1)), (3, .int q1), (0, .ref 28), (1, .ref 21), (2, .int a2)] [.int q26, .int q1, .ref 21] h24 _ _
    refine py_its (pc := 70) (pc1 := 71) (lv1 := [(5, .long ((aL hp (gR hp (gR hp 28 0) 2) a2.toNatClampNeg) / (nm_bc q1).toInt64)), (4, .int (nm_bc q1)), (3, .int q1), (0, .ref 28), (1, .ref 21), (2, .int a2)]) (st1 := [.ref 28, .int q26, .int q1, .ref 21]) 1 (fun _ _ _ _ => rfl) ?_
    refine py_g1 47 (pc := 71) (len := 3) (cs := [28]) rfl rfl rfl List.mem_cons_self hS25 ?_
    refine py_gI (pc := 74) (len := 3) (cs := [47]) rfl rfl rfl List.mem_cons_self hS25 ?_
    obtain ⟨q29, hq30, h⟩ := bd_e h
    obtain ⟨hC31, hS32⟩ := fx_Course_foretell hS25 hq30
    refine py_vi (pc := 77) (mi := mi_Course_foretell) (cs := [21]) (N := mm_Course_foretell) rfl rfl rfl rfl List.mem_cons_self hS25 rfl (Nat.le_of_ble_eq_true rfl) (Nat.le_of_ble_eq_true rfl) rfl rfl hC31 ?_
    show px_Y mm_Walk_drawEach 80 [(5, .long ((aL hp (gR hp (gR hp 28 0) 2) a2.toNatClampNeg) / (nm_bc q1).toInt64)), (4, .int (nm_bc q1)), (3, .int q1), (0, .ref 28), (1, .ref 21), (2, .int a2)] [] q29 _ _
    refine py_its (pc := 80) (pc1 := 83) (lv1 := [(7, .int (Int32.ofInt 0)), (5, .long ((aL hp (gR hp (gR hp 28 0) 2) a2.toNatClampNeg) / (nm_bc q1).toInt64)), (4, .int (nm_bc q1)), (3, .int q1), (0, .ref 28), (1, .ref 21), (2, .int a2)]) (st1 := []) 2 (fun _ _ _ _ => rfl) ?_
    exact fl_Walk_drawEach_L83 fu (Int32.ofInt 0) q29 [(7, .int (Int32.ofInt 0)), (5, .long ((aL hp (gR hp (gR hp 28 0) 2) a2.toNatClampNeg) / (nm_bc q1).toInt64)), (4, .int (nm_bc q1)), (3, .int q1), (0, .ref 28), (1, .ref 21), (2, .int a2)] _ hS32 ⟨rfl, rfl, rfl, rfl, rfl, rfl, trivial⟩ h
/-! Walk_drawAll -/
noncomputable def fb_Walk_drawAll_L9  (rc : Int32 → px_H → Option (Int32 × px_H)) (v2 : Int32) (hp : px_H) : Option (Int32 × px_H) :=
  bif px_cmp .ge v2 (gI hp (gR hp 28 0) 3) then
    sb (wF hp 28 0 (.ref (gR hp 28 1))) fun h12 =>
    sb (wF h12 28 1 (.ref (gR hp 28 0))) fun h14 =>
    some ((Int32.ofInt 1), h14)
  else
    bif px_inR v2 3000 then
    bif px_inR v2 3000 then
    (fn_Chest_lay 47 (aL hp (gR hp (gR hp 28 0) 0) v2.toNatClampNeg) (aI hp (gR hp (gR hp 28 0) 1) v2.toNatClampNeg) hp).bind fun q22 =>
    (fn_Chest_isOver 47 q22).bind fun q26 =>
    bif px_cmp .eq q26 0 then
      (fn_Walk_drawEach v2 q22).bind fun q30 =>
      bif px_cmp .ne q30.1 0 then
        rc (v2 + Int32.ofInt 1) q30.2
      else
        some ((Int32.ofInt 0), q30.2)
    else
      (fn_Chest_close 47 q22).bind fun q37 =>
      bif px_inR v2 3000 then
      (fn_Table_add (gR q37 28 2) (gL q37 47 0) (gI q37 47 1) (aL q37 (gR q37 (gR q37 28 0) 2) v2.toNatClampNeg) q37).bind fun q45 =>
      bif px_cmp .ne q45.1 0 then
        rc (v2 + Int32.ofInt 1) q45.2
      else
        some ((Int32.ofInt 0), q45.2)
      else none
    else none
    else none
noncomputable def fn_Walk_drawAll_L9  : Nat → Int32 → px_H → Option (Int32 × px_H)
  | 0 => fun _ _ => none
  | n + 1 => fb_Walk_drawAll_L9  (fn_Walk_drawAll_L9  n)
theorem fl_Walk_drawAll_L9   : ∀ (n : Nat) (v2 : Int32) (hp : px_H) (lv : List (Nat × Value)) (res : Int32 × px_H), oS hp → lk lv [(0, .ref 28), (1, .ref 21), (2, .int v2)] → fn_Walk_drawAll_L9  n v2 hp = some res → px_Y mm_Walk_drawAll 9 lv [] hp (some (.int res.1)) res.2 := by
  intro n
  induction n with
  | zero =>
    intro v2 hp lv res hS hk h
    cases h
  | succ n ih =>
    intro v2 hp lv res hS hk h
    have h : fb_Walk_drawAll_L9  (fn_Walk_drawAll_L9  n) v2 hp = some res := h
    unfold fb_Walk_drawAll_L9 at h
    refine py_iln (pc := 9) (len := 1) (j := 2) rfl hk rfl ?_
    refine py_aln (pc := 10) (len := 1) (j := 0) rfl hk rfl ?_
    refine py_gR [29, 35, 41] (pc := 11) (len := 3) (cs := [28]) rfl rfl rfl List.mem_cons_self hS (fun hm6 => ?_)
    refine py_gI (pc := 14) (len := 3) (cs := [29, 35, 41]) rfl rfl rfl hm6 hS ?_
    cases hb7 : px_cmp .ge v2 (gI hp (gR hp 28 0) 3) with
    | true =>
      have h := cd_t hb7 h
      refine py_ic (pc := 17) (len := 3) true rfl hb7 ?_
      refine py_aln (pc := 116) (len := 1) (j := 0) rfl hk rfl ?_
      refine py_gR [29, 35, 41] (pc := 117) (len := 3) (cs := [28]) rfl rfl rfl List.mem_cons_self hS (fun hm8 => ?_)
      refine py_san (pc := 120) (len := 1) (j := 2) rfl rfl hk (fun lv9 hk10 => ?_)
      have hk10 : lk lv9 [(2, .ref (gR hp 28 0)), (0, .ref 28), (1, .ref 21)] := hk10
      refine py_aln (pc := 121) (len := 1) (j := 0) rfl hk10 rfl ?_
      refine py_aln (pc := 122) (len := 1) (j := 0) rfl hk10 rfl ?_
      refine py_gR [29, 35, 41] (pc := 123) (len := 3) (cs := [28]) rfl rfl rfl List.mem_cons_self hS (fun hm11 => ?_)
      have h := sb_e h
      refine py_pR (pc := 126) (len := 3) (cs := [28]) (ds := [29, 35, 41]) rfl rfl rfl List.mem_cons_self hS rfl rfl rfl rfl ?_
      have hS13 : oS (wF hp 28 0 (.ref (gR hp 28 1))) := oS_wRm (ci := 7) (cs := [29, 35, 41]) rfl hm11 hS
      generalize (wF hp 28 0 (.ref (gR hp 28 1))) = h12 at h hS13 ⊢
      refine py_aln (pc := 129) (len := 1) (j := 0) rfl hk10 rfl ?_
      refine py_aln (pc := 130) (len := 1) (j := 2) rfl hk10 rfl ?_
      have h := sb_e h
      refine py_pR (pc := 131) (len := 3) (cs := [28]) (ds := [29, 35, 41]) rfl rfl rfl List.mem_cons_self hS13 rfl rfl rfl rfl ?_
      have hS15 : oS (wF h12 28 1 (.ref (gR hp 28 0))) := oS_wRm (ci := 7) (cs := [29, 35, 41]) rfl hm8 hS13
      generalize (wF h12 28 1 (.ref (gR hp 28 0))) = h14 at h hS15 ⊢
      refine py_its (pc := 134) (pc1 := 135) (lv1 := lv9) (st1 := [.int (Int32.ofInt 1)]) 1 (fun _ _ _ _ => rfl) ?_
      have h := Option.some.inj h
      subst h
      exact py_ir (pc := 135) (len := 1) (ty := .boolean) rfl rfl (by decide) hS15
    | false =>
      have h := cd_f hb7 h
      refine py_ic (pc := 17) (len := 3) false rfl hb7 ?_
      refine py_aln (pc := 20) (len := 1) (j := 0) rfl hk rfl ?_
      refine py_g1 47 (pc := 21) (len := 3) (cs := [28]) rfl rfl rfl List.mem_cons_self hS ?_
      refine py_aln (pc := 24) (len := 1) (j := 0) rfl hk rfl ?_
      refine py_gR [29, 35, 41] (pc := 25) (len := 3) (cs := [28]) rfl rfl rfl List.mem_cons_self hS (fun hm16 => ?_)
      refine py_gR [30, 36, 42] (pc := 28) (len := 3) (cs := [29, 35, 41]) rfl rfl rfl hm16 hS (fun hm17 => ?_)
      refine py_iln (pc := 31) (len := 1) (j := 2) rfl hk rfl ?_
      obtain ⟨hi18, h⟩ := cd_n h
      refine py_al (pc := 32) (len := 1) (cs := [30, 36, 42]) (t := 6) (n := 3000) rfl rfl rfl hi18 hm17 hS ?_
      refine py_aln (pc := 33) (len := 1) (j := 0) rfl hk rfl ?_
      refine py_gR [29, 35, 41] (pc := 34) (len := 3) (cs := [28]) rfl rfl rfl List.mem_cons_self hS (fun hm19 => ?_)
      refine py_gR [31, 37, 43] (pc := 37) (len := 3) (cs := [29, 35, 41]) rfl rfl rfl hm19 hS (fun hm20 => ?_)
      refine py_iln (pc := 40) (len := 1) (j := 2) rfl hk rfl ?_
      obtain ⟨hi21, h⟩ := cd_n h
      refine py_ai (pc := 41) (len := 1) (cs := [31, 37, 43]) (t := 7) (n := 3000) rfl rfl rfl hi21 hm20 hS ?_
      obtain ⟨q22, hq23, h⟩ := bd_e h
      obtain ⟨hC24, hS25⟩ := fx_Chest_lay (List.mem_of_elem_eq_true rfl) hS hq23
      refine py_vi (pc := 42) (mi := mi_Chest_lay) (cs := [47]) (N := mm_Chest_lay) rfl rfl rfl rfl List.mem_cons_self hS rfl (Nat.le_of_ble_eq_true rfl) (Nat.le_of_ble_eq_true rfl) rfl rfl hC24 ?_
      show px_Y mm_Walk_drawAll 45 lv [] q22 _ _
      refine py_aln (pc := 45) (len := 1) (j := 0) rfl hk rfl ?_
      refine py_g1 47 (pc := 46) (len := 3) (cs := [28]) rfl rfl rfl List.mem_cons_self hS25 ?_
      refine py_aln (pc := 49) (len := 1) (j := 1) rfl hk rfl ?_
      obtain ⟨q26, hq27, h⟩ := bd_e h
      have hC28 := (fx_Chest_isOver (List.mem_of_elem_eq_true rfl) hS25 hq27).1
      refine py_vi (pc := 50) (mi := mi_Chest_isOver) (cs := [47]) (N := mm_Chest_isOver) rfl rfl rfl rfl List.mem_cons_self hS25 rfl (Nat.le_of_ble_eq_true rfl) (Nat.le_of_ble_eq_true rfl) rfl rfl hC28 ?_
      show px_Y mm_Walk_drawAll 53 lv [.int q26] q22 _ _
      cases hb29 : px_cmp .eq q26 0 with
      | true =>
        have h := cd_t hb29 h
        refine py_if (pc := 53) (len := 3) true rfl hb29 ?_
        refine py_aln (pc := 99) (len := 1) (j := 0) rfl hk rfl ?_
        refine py_aln (pc := 100) (len := 1) (j := 1) rfl hk rfl ?_
        refine py_iln (pc := 101) (len := 1) (j := 2) rfl hk rfl ?_
        obtain ⟨q30, hq31, h⟩ := bd_e h
        obtain ⟨hC32, hS33⟩ := fx_Walk_drawEach hS25 hq31
        refine py_vi (pc := 102) (mi := mi_Walk_drawEach) (cs := [28]) (N := mm_Walk_drawEach) rfl rfl rfl rfl List.mem_cons_self hS25 rfl (Nat.le_of_ble_eq_true rfl) (Nat.le_of_ble_eq_true rfl) rfl rfl hC32 ?_
        show px_Y mm_Walk_drawAll 105 lv [.int q30.1] q30.2 _ _
        cases hb34 : px_cmp .ne q30.1 0 with
        | true =>
          have h := cd_t hb34 h
          refine py_if (pc := 105) (len := 3) true rfl hb34 ?_
          refine py_inc (pc := 110) (len := 3) (j := 2) (n := 1) rfl rfl hk rfl (fun lv35 hk36 => ?_)
          have hk36 : lk lv35 [(2, .int (v2 + Int32.ofInt 1)), (0, .ref 28), (1, .ref 21)] := hk36
          refine py_its (pc := 113) (pc1 := 9) (lv1 := lv35) (st1 := []) 1 (fun _ _ _ _ => rfl) ?_
          exact ih (v2 + Int32.ofInt 1) q30.2 lv35 _ hS33 ⟨lk_find hk36 rfl, lk_find hk36 rfl, lk_find hk36 rfl, trivial⟩ h
        | false =>
          have h := cd_f hb34 h
          refine py_if (pc := 105) (len := 3) false rfl hb34 ?_
          refine py_its (pc := 108) (pc1 := 109) (lv1 := lv) (st1 := [.int (Int32.ofInt 0)]) 1 (fun _ _ _ _ => rfl) ?_
          have h := Option.some.inj h
          subst h
          exact py_ir (pc := 109) (len := 1) (ty := .boolean) rfl rfl (by decide) hS33
      | false =>
        have h := cd_f hb29 h
        refine py_if (pc := 53) (len := 3) false rfl hb29 ?_
        refine py_aln (pc := 56) (len := 1) (j := 0) rfl hk rfl ?_
        refine py_g1 47 (pc := 57) (len := 3) (cs := [28]) rfl rfl rfl List.mem_cons_self hS25 ?_
        refine py_aln (pc := 60) (len := 1) (j := 1) rfl hk rfl ?_
        obtain ⟨q37, hq38, h⟩ := bd_e h
        obtain ⟨hC39, hS40⟩ := fx_Chest_close (List.mem_of_elem_eq_true rfl) hS25 hq38
        refine py_vi (pc := 61) (mi := mi_Chest_close) (cs := [47]) (N := mm_Chest_close) rfl rfl rfl rfl List.mem_cons_self hS25 rfl (Nat.le_of_ble_eq_true rfl) (Nat.le_of_ble_eq_true rfl) rfl rfl hC39 ?_
        show px_Y mm_Walk_drawAll 64 lv [] q37 _ _
        refine py_aln (pc := 64) (len := 1) (j := 0) rfl hk rfl ?_
        refine py_gR [29, 35, 41] (pc := 65) (len := 3) (cs := [28]) rfl rfl rfl List.mem_cons_self hS40 (fun hm41 => ?_)
        refine py_aln (pc := 68) (len := 1) (j := 0) rfl hk rfl ?_
        refine py_g1 47 (pc := 69) (len := 3) (cs := [28]) rfl rfl rfl List.mem_cons_self hS40 ?_
        refine py_gL (pc := 72) (len := 3) (cs := [47]) rfl rfl rfl List.mem_cons_self hS40 ?_
        refine py_aln (pc := 75) (len := 1) (j := 0) rfl hk rfl ?_
        refine py_g1 47 (pc := 76) (len := 3) (cs := [28]) rfl rfl rfl List.mem_cons_self hS40 ?_
        refine py_gI (pc := 79) (len := 3) (cs := [47]) rfl rfl rfl List.mem_cons_self hS40 ?_
        refine py_aln (pc := 82) (len := 1) (j := 0) rfl hk rfl ?_
        refine py_gR [29, 35, 41] (pc := 83) (len := 3) (cs := [28]) rfl rfl rfl List.mem_cons_self hS40 (fun hm42 => ?_)
        refine py_gR [32, 38, 44] (pc := 86) (len := 3) (cs := [29, 35, 41]) rfl rfl rfl hm42 hS40 (fun hm43 => ?_)
        refine py_iln (pc := 89) (len := 1) (j := 2) rfl hk rfl ?_
        obtain ⟨hi44, h⟩ := cd_n h
        refine py_al (pc := 90) (len := 1) (cs := [32, 38, 44]) (t := 8) (n := 3000) rfl rfl rfl hi44 hm43 hS40 ?_
        obtain ⟨q45, hq46, h⟩ := bd_e h
        obtain ⟨hC47, hS48⟩ := fx_Table_add hm41 hS40 hq46
        refine py_vi (pc := 91) (mi := mi_Table_add) (cs := [29, 35, 41]) (N := mm_Table_add) rfl rfl rfl rfl hm41 hS40 rfl (Nat.le_of_ble_eq_true rfl) (Nat.le_of_ble_eq_true rfl) rfl rfl hC47 ?_
        show px_Y mm_Walk_drawAll 94 lv [.int q45.1] q45.2 _ _
        cases hb49 : px_cmp .ne q45.1 0 with
        | true =>
          have h := cd_t hb49 h
          refine py_if (pc := 94) (len := 3) true rfl hb49 ?_
          refine py_inc (pc := 110) (len := 3) (j := 2) (n := 1) rfl rfl hk rfl (fun lv50 hk51 => ?_)
          have hk51 : lk lv50 [(2, .int (v2 + Int32.ofInt 1)), (0, .ref 28), (1, .ref 21)] := hk51
          refine py_its (pc := 113) (pc1 := 9) (lv1 := lv50) (st1 := []) 1 (fun _ _ _ _ => rfl) ?_
          exact ih (v2 + Int32.ofInt 1) q45.2 lv50 _ hS48 ⟨lk_find hk51 rfl, lk_find hk51 rfl, lk_find hk51 rfl, trivial⟩ h
        | false =>
          have h := cd_f hb49 h
          refine py_if (pc := 94) (len := 3) false rfl hb49 ?_
          refine py_its (pc := 97) (pc1 := 98) (lv1 := lv) (st1 := [.int (Int32.ofInt 0)]) 1 (fun _ _ _ _ => rfl) ?_
          have h := Option.some.inj h
          subst h
          exact py_ir (pc := 98) (len := 1) (ty := .boolean) rfl rfl (by decide) hS48
noncomputable def fn_Walk_drawAll  (hp : px_H) : Option (Int32 × px_H) :=
  (fn_Table_clear (gR hp 28 1) hp).bind fun q2 =>
  fn_Walk_drawAll_L9 fu (Int32.ofInt 0) q2
theorem fx_Walk_drawAll  {hp : px_H} {res : Int32 × px_H} (hS : oS hp) (h : fn_Walk_drawAll hp = some res) : px_C nm_T nm_P mi_Walk_drawAll [.ref 28, .ref 21] hp (some (.int res.1)) res.2 ∧ oS res.2 := by
  unfold fn_Walk_drawAll at h
  refine py_C (M := mm_Walk_drawAll) rfl (Nat.le_of_ble_eq_true rfl) ?_
  show px_Y mm_Walk_drawAll 0 [(0, .ref 28), (1, .ref 21)] [] hp _ _
  refine py_its (pc := 0) (pc1 := 1) (lv1 := [(0, .ref 28), (1, .ref 21)]) (st1 := [.ref 28]) 1 (fun _ _ _ _ => rfl) ?_
  refine py_gR [29, 35, 41] (pc := 1) (len := 3) (cs := [28]) rfl rfl rfl List.mem_cons_self hS (fun hm1 => ?_)
  obtain ⟨q2, hq3, h⟩ := bd_e h
  obtain ⟨hC4, hS5⟩ := fx_Table_clear hm1 hS hq3
  refine py_vi (pc := 4) (mi := mi_Table_clear) (cs := [29, 35, 41]) (N := mm_Table_clear) rfl rfl rfl rfl hm1 hS rfl (Nat.le_of_ble_eq_true rfl) (Nat.le_of_ble_eq_true rfl) rfl rfl hC4 ?_
  show px_Y mm_Walk_drawAll 7 [(0, .ref 28), (1, .ref 21)] [] q2 _ _
  refine py_its (pc := 7) (pc1 := 9) (lv1 := [(2, .int (Int32.ofInt 0)), (0, .ref 28), (1, .ref 21)]) (st1 := []) 2 (fun _ _ _ _ => rfl) ?_
  exact fl_Walk_drawAll_L9 fu (Int32.ofInt 0) q2 [(2, .int (Int32.ofInt 0)), (0, .ref 28), (1, .ref 21)] _ hS5 ⟨rfl, rfl, rfl, trivial⟩ h
/-! Walk_pass -/
noncomputable def fb_Walk_pass_L22  (rc : Int32 → px_H → Option (Int32 × px_H)) (v3 : Int32) (hp : px_H) : Option (Int32 × px_H) :=
  bif px_cmp .gt v3 (Int8.ofInt 10).toInt32 then
    some ((Int32.ofInt 1), hp)
  else
    bif px_cmp .le (gI hp (gR hp 28 0) 3) 0 then
      some ((Int32.ofInt 1), hp)
    else
      (fn_Walk_drawAll hp).bind fun q16 =>
      bif px_cmp .ne q16.1 0 then
        rc (v3 + Int32.ofInt 1) q16.2
      else
        some ((Int32.ofInt 0), q16.2)
noncomputable def fn_Walk_pass_L22  : Nat → Int32 → px_H → Option (Int32 × px_H)
  | 0 => fun _ _ => none
  | n + 1 => fb_Walk_pass_L22  (fn_Walk_pass_L22  n)
theorem fl_Walk_pass_L22   : ∀ (n : Nat) (v3 : Int32) (hp : px_H) (lv : List (Nat × Value)) (res : Int32 × px_H), oS hp → lk lv [(0, .ref 28), (1, .ref 21), (3, .int v3)] → fn_Walk_pass_L22  n v3 hp = some res → px_Y mm_Walk_pass 22 lv [] hp (some (.int res.1)) res.2 := by
  intro n
  induction n with
  | zero =>
    intro v3 hp lv res hS hk h
    cases h
  | succ n ih =>
    intro v3 hp lv res hS hk h
    have h : fb_Walk_pass_L22  (fn_Walk_pass_L22  n) v3 hp = some res := h
    unfold fb_Walk_pass_L22 at h
    refine py_iln (pc := 22) (len := 1) (j := 3) rfl hk rfl ?_
    refine py_its (pc := 23) (pc1 := 25) (lv1 := lv) (st1 := [.int (Int8.ofInt 10).toInt32, .int v3]) 1 (fun _ _ _ _ => rfl) ?_
    cases hb13 : px_cmp .gt v3 (Int8.ofInt 10).toInt32 with
    | true =>
      have h := cd_t hb13 h
      refine py_ic (pc := 25) (len := 3) true rfl hb13 ?_
      refine py_its (pc := 54) (pc1 := 55) (lv1 := lv) (st1 := [.int (Int32.ofInt 1)]) 1 (fun _ _ _ _ => rfl) ?_
      have h := Option.some.inj h
      subst h
      exact py_ir (pc := 55) (len := 1) (ty := .boolean) rfl rfl (by decide) hS
    | false =>
      have h := cd_f hb13 h
      refine py_ic (pc := 25) (len := 3) false rfl hb13 ?_
      refine py_aln (pc := 28) (len := 1) (j := 0) rfl hk rfl ?_
      refine py_gR [29, 35, 41] (pc := 29) (len := 3) (cs := [28]) rfl rfl rfl List.mem_cons_self hS (fun hm14 => ?_)
      refine py_gI (pc := 32) (len := 3) (cs := [29, 35, 41]) rfl rfl rfl hm14 hS ?_
      cases hb15 : px_cmp .le (gI hp (gR hp 28 0) 3) 0 with
      | true =>
        have h := cd_t hb15 h
        refine py_if (pc := 35) (len := 3) true rfl hb15 ?_
        refine py_its (pc := 54) (pc1 := 55) (lv1 := lv) (st1 := [.int (Int32.ofInt 1)]) 1 (fun _ _ _ _ => rfl) ?_
        have h := Option.some.inj h
        subst h
        exact py_ir (pc := 55) (len := 1) (ty := .boolean) rfl rfl (by decide) hS
      | false =>
        have h := cd_f hb15 h
        refine py_if (pc := 35) (len := 3) false rfl hb15 ?_
        refine py_aln (pc := 38) (len := 1) (j := 0) rfl hk rfl ?_
        refine py_aln (pc := 39) (len := 1) (j := 1) rfl hk rfl ?_
        obtain ⟨q16, hq17, h⟩ := bd_e h
        obtain ⟨hC18, hS19⟩ := fx_Walk_drawAll hS hq17
        refine py_vi (pc := 40) (mi := mi_Walk_drawAll) (cs := [28]) (N := mm_Walk_drawAll) rfl rfl rfl rfl List.mem_cons_self hS rfl (Nat.le_of_ble_eq_true rfl) (Nat.le_of_ble_eq_true rfl) rfl rfl hC18 ?_
        show px_Y mm_Walk_pass 43 lv [.int q16.1] q16.2 _ _
        cases hb20 : px_cmp .ne q16.1 0 with
        | true =>
          have h := cd_t hb20 h
          refine py_if (pc := 43) (len := 3) true rfl hb20 ?_
          refine py_inc (pc := 48) (len := 3) (j := 3) (n := 1) rfl rfl hk rfl (fun lv21 hk22 => ?_)
          have hk22 : lk lv21 [(3, .int (v3 + Int32.ofInt 1)), (0, .ref 28), (1, .ref 21)] := hk22
          refine py_its (pc := 51) (pc1 := 22) (lv1 := lv21) (st1 := []) 1 (fun _ _ _ _ => rfl) ?_
          exact ih (v3 + Int32.ofInt 1) q16.2 lv21 _ hS19 ⟨lk_find hk22 rfl, lk_find hk22 rfl, lk_find hk22 rfl, trivial⟩ h
        | false =>
          have h := cd_f hb20 h
          refine py_if (pc := 43) (len := 3) false rfl hb20 ?_
          refine py_its (pc := 46) (pc1 := 47) (lv1 := lv) (st1 := [.int (Int32.ofInt 0)]) 1 (fun _ _ _ _ => rfl) ?_
          have h := Option.some.inj h
          subst h
          exact py_ir (pc := 47) (len := 1) (ty := .boolean) rfl rfl (by decide) hS19
noncomputable def fn_Walk_pass (a2 : Int32) (hp : px_H) : Option (Int32 × px_H) :=
  (fn_Course_ready a2 hp).bind fun q1 =>
  (fn_Walk_openAll q1).bind fun q5 =>
  sb (wF q5 28 4 (.long (Int64.ofNat 0))) fun h9 =>
  sb (wF h9 28 5 (.long (Int64.ofNat 0))) fun h11 =>
  fn_Walk_pass_L22 fu (Int32.ofInt 0) h11
theorem fx_Walk_pass {a2 : Int32} {hp : px_H} {res : Int32 × px_H} (hS : oS hp) (h : fn_Walk_pass a2 hp = some res) : px_C nm_T nm_P mi_Walk_pass [.ref 28, .ref 21, .int a2] hp (some (.int res.1)) res.2 ∧ oS res.2 := by
  unfold fn_Walk_pass at h
  refine py_C (M := mm_Walk_pass) rfl (Nat.le_of_ble_eq_true rfl) ?_
  show px_Y mm_Walk_pass 0 [(0, .ref 28), (1, .ref 21), (2, .int a2)] [] hp _ _
  refine py_its (pc := 0) (pc1 := 2) (lv1 := [(0, .ref 28), (1, .ref 21), (2, .int a2)]) (st1 := [.int a2, .ref 21]) 2 (fun _ _ _ _ => rfl) ?_
  obtain ⟨q1, hq2, h⟩ := bd_e h
  obtain ⟨hC3, hS4⟩ := fx_Course_ready hS hq2
  refine py_vi (pc := 2) (mi := mi_Course_ready) (cs := [21]) (N := mm_Course_ready) rfl rfl rfl rfl List.mem_cons_self hS rfl (Nat.le_of_ble_eq_true rfl) (Nat.le_of_ble_eq_true rfl) rfl rfl hC3 ?_
  show px_Y mm_Walk_pass 5 [(0, .ref 28), (1, .ref 21), (2, .int a2)] [] q1 _ _
  refine py_its (pc := 5) (pc1 := 7) (lv1 := [(0, .ref 28), (1, .ref 21), (2, .int a2)]) (st1 := [.ref 21, .ref 28]) 2 (fun _ _ _ _ => rfl) ?_
  obtain ⟨q5, hq6, h⟩ := bd_e h
  obtain ⟨hC7, hS8⟩ := fx_Walk_openAll hS4 hq6
  refine py_vi (pc := 7) (mi := mi_Walk_openAll) (cs := [28]) (N := mm_Walk_openAll) rfl rfl rfl rfl List.mem_cons_self hS4 rfl (Nat.le_of_ble_eq_true rfl) (Nat.le_of_ble_eq_true rfl) rfl rfl hC7 ?_
  show px_Y mm_Walk_pass 10 [(0, .ref 28), (1, .ref 21), (2, .int a2)] [] q5 _ _
  refine py_its (pc := 10) (pc1 := 12) (lv1 := [(0, .ref 28), (1, .ref 21), (2, .int a2)]) (st1 := [.long (Int64.ofNat 0), .ref 28]) 2 (fun _ _ _ _ => rfl) ?_
  have h := sb_e h
  refine py_pL (pc := 12) (len := 3) (cs := [28]) rfl rfl rfl List.mem_cons_self hS8 rfl rfl rfl rfl ?_
  have hS10 : oS (wF q5 28 4 (.long (Int64.ofNat 0))) := oS_wL (cs := [28]) (ci := 7) rfl List.mem_cons_self hS8
  generalize (wF q5 28 4 (.long (Int64.ofNat 0))) = h9 at h hS10 ⊢
  refine py_its (pc := 15) (pc1 := 17) (lv1 := [(0, .ref 28), (1, .ref 21), (2, .int a2)]) (st1 := [.long (Int64.ofNat 0), .ref 28]) 2 (fun _ _ _ _ => rfl) ?_
  have h := sb_e h
  refine py_pL (pc := 17) (len := 3) (cs := [28]) rfl rfl rfl List.mem_cons_self hS10 rfl rfl rfl rfl ?_
  have hS12 : oS (wF h9 28 5 (.long (Int64.ofNat 0))) := oS_wL (cs := [28]) (ci := 7) rfl List.mem_cons_self hS10
  generalize (wF h9 28 5 (.long (Int64.ofNat 0))) = h11 at h hS12 ⊢
  refine py_its (pc := 20) (pc1 := 22) (lv1 := [(3, .int (Int32.ofInt 0)), (0, .ref 28), (1, .ref 21), (2, .int a2)]) (st1 := []) 2 (fun _ _ _ _ => rfl) ?_
  exact fl_Walk_pass_L22 fu (Int32.ofInt 0) h11 [(3, .int (Int32.ofInt 0)), (0, .ref 28), (1, .ref 21), (2, .int a2)] _ hS12 ⟨rfl, rfl, rfl, trivial⟩ h
/-! X_walkBy -/
noncomputable def fb_X_walkBy_L50 (v3 : Int32) (rc : Int32 → Int32 → px_H → Option (Int32 × px_H)) (v4 : Int32) (v5 : Int32) (hp : px_H) : Option (Int32 × px_H) :=
  bif px_cmp .gt v5 v3 then
    bif px_zr .boolean v4 then
    some (v4, hp)
    else none
  else
    bif px_cmp .eq v4 0 then
      bif px_zr .boolean v4 then
      some (v4, hp)
      else none
    else
      (fn_Walk_pass v5 hp).bind fun q13 =>
      rc q13.1 (v5 + Int32.ofInt 1) q13.2
noncomputable def fn_X_walkBy_L50 (v3 : Int32) : Nat → Int32 → Int32 → px_H → Option (Int32 × px_H)
  | 0 => fun _ _ _ => none
  | n + 1 => fb_X_walkBy_L50 v3 (fn_X_walkBy_L50 v3 n)
theorem fl_X_walkBy_L50 {v3 : Int32}  : ∀ (n : Nat) (v4 : Int32) (v5 : Int32) (hp : px_H) (lv : List (Nat × Value)) (res : Int32 × px_H), oS hp → lk lv [(0, .ref 0), (3, .int v3), (4, .int v4), (5, .int v5)] → fn_X_walkBy_L50 v3 n v4 v5 hp = some res → px_Y mm_X_walkBy 50 lv [] hp (some (.int res.1)) res.2 := by
  intro n
  induction n with
  | zero =>
    intro v4 v5 hp lv res hS hk h
    cases h
  | succ n ih =>
    intro v4 v5 hp lv res hS hk h
    have h : fb_X_walkBy_L50 v3 (fn_X_walkBy_L50 v3 n) v4 v5 hp = some res := h
    unfold fb_X_walkBy_L50 at h
    refine py_il (pc := 50) (len := 2) (j := 5) rfl hk rfl ?_
    refine py_iln (pc := 52) (len := 1) (j := 3) rfl hk rfl ?_
    cases hb9 : px_cmp .gt v5 v3 with
    | true =>
      have h := cd_t hb9 h
      refine py_ic (pc := 53) (len := 3) true rfl hb9 ?_
      refine py_il (pc := 82) (len := 2) (j := 4) rfl hk rfl ?_
      obtain ⟨hz10, h⟩ := cd_n h
      have h := Option.some.inj h
      subst h
      exact py_ir (pc := 84) (len := 1) (ty := .boolean) rfl rfl hz10 hS
    | false =>
      have h := cd_f hb9 h
      refine py_ic (pc := 53) (len := 3) false rfl hb9 ?_
      refine py_il (pc := 56) (len := 2) (j := 4) rfl hk rfl ?_
      cases hb11 : px_cmp .eq v4 0 with
      | true =>
        have h := cd_t hb11 h
        refine py_if (pc := 58) (len := 3) true rfl hb11 ?_
        refine py_il (pc := 82) (len := 2) (j := 4) rfl hk rfl ?_
        obtain ⟨hz12, h⟩ := cd_n h
        have h := Option.some.inj h
        subst h
        exact py_ir (pc := 84) (len := 1) (ty := .boolean) rfl rfl hz12 hS
      | false =>
        have h := cd_f hb11 h
        refine py_if (pc := 58) (len := 3) false rfl hb11 ?_
        refine py_aln (pc := 61) (len := 1) (j := 0) rfl hk rfl ?_
        refine py_g1 28 (pc := 62) (len := 3) (cs := [0]) rfl rfl rfl List.mem_cons_self hS ?_
        refine py_aln (pc := 65) (len := 1) (j := 0) rfl hk rfl ?_
        refine py_g1 21 (pc := 66) (len := 3) (cs := [0]) rfl rfl rfl List.mem_cons_self hS ?_
        refine py_il (pc := 69) (len := 2) (j := 5) rfl hk rfl ?_
        obtain ⟨q13, hq14, h⟩ := bd_e h
        obtain ⟨hC15, hS16⟩ := fx_Walk_pass hS hq14
        refine py_vi (pc := 71) (mi := mi_Walk_pass) (cs := [28]) (N := mm_Walk_pass) rfl rfl rfl rfl List.mem_cons_self hS rfl (Nat.le_of_ble_eq_true rfl) (Nat.le_of_ble_eq_true rfl) rfl rfl hC15 ?_
        show px_Y mm_X_walkBy 74 lv [.int q13.1] q13.2 _ _
        refine py_sti (pc := 74) (len := 2) (j := 4) rfl rfl hk (fun lv17 hk18 => ?_)
        have hk18 : lk lv17 [(4, .int q13.1), (0, .ref 0), (3, .int v3), (5, .int v5)] := hk18
        refine py_inc (pc := 76) (len := 3) (j := 5) (n := 1) rfl rfl hk18 rfl (fun lv19 hk20 => ?_)
        have hk20 : lk lv19 [(5, .int (v5 + Int32.ofInt 1)), (4, .int q13.1), (0, .ref 0), (3, .int v3)] := hk20
        refine py_its (pc := 79) (pc1 := 50) (lv1 := lv19) (st1 := []) 1 (fun _ _ _ _ => rfl) ?_
        exact ih q13.1 (v5 + Int32.ofInt 1) q13.2 lv19 _ hS16 ⟨lk_find hk20 rfl, lk_find hk20 rfl, lk_find hk20 rfl, lk_find hk20 rfl, trivial⟩ h
noncomputable def fn_X_walkBy (c1 : Nat) (a2 : Int32) (a3 : Int32) (hp : px_H) : Option (Int32 × px_H) :=
  (fn_Course_set c1 (aI hp 7 (Int32.ofInt 0).toNatClampNeg) (aI hp 7 (Int32.ofInt 1).toNatClampNeg) a2 hp).bind fun q1 =>
  (fn_Walk_start 19 q1).bind fun q5 =>
  fn_X_walkBy_L50 a3 fu (Int32.ofInt 1) (gI q5 19 2) q5
theorem fx_X_walkBy {c1 : Nat} {a2 : Int32} {a3 : Int32} {hp : px_H} {res : Int32 × px_H} (hc1 : c1 ∈ [14, 22, 54, 58, 62]) (hS : oS hp) (h : fn_X_walkBy c1 a2 a3 hp = some res) : px_C nm_T nm_P mi_X_walkBy [.ref 0, .ref c1, .int a2, .int a3] hp (some (.int res.1)) res.2 ∧ oS res.2 := by
  unfold fn_X_walkBy at h
  refine py_C (M := mm_X_walkBy) rfl (Nat.le_of_ble_eq_true rfl) ?_
  show px_Y mm_X_walkBy 0 [(0, .ref 0), (1, .ref c1), (2, .int a2), (3, .int a3)] [] hp _ _
  refine py_its (pc := 0) (pc1 := 1) (lv1 := [(0, .ref 0), (1, .ref c1), (2, .int a2), (3, .int a3)]) (st1 := [.ref 0]) 1 (fun _ _ _ _ => rfl) ?_
  refine py_g1 21 (pc := 1) (len := 3) (cs := [0]) rfl rfl rfl List.mem_cons_self hS ?_
  refine py_its (pc := 4) (pc1 := 6) (lv1 := [(0, .ref 0), (1, .ref c1), (2, .int a2), (3, .int a3)]) (st1 := [.ref 0, .ref c1, .ref 21]) 2 (fun _ _ _ _ => rfl) ?_
  refine py_g1 1 (pc := 6) (len := 3) (cs := [0]) rfl rfl rfl List.mem_cons_self hS ?_
  refine py_g1 7 (pc := 9) (len := 3) (cs := [1]) rfl rfl rfl List.mem_cons_self hS ?_
  refine py_its (pc := 12) (pc1 := 13) (lv1 := [(0, .ref 0), (1, .ref c1), (2, .int a2), (3, .int a3)]) (st1 := [.int (Int32.ofInt 0), .ref 7, .ref c1, .ref 21]) 1 (fun _ _ _ _ => rfl) ?_
  refine py_ai (pc := 13) (len := 1) (cs := [7]) (t := 17) (n := 2) rfl rfl rfl rfl List.mem_cons_self hS ?_
  refine py_its (pc := 14) (pc1 := 15) (lv1 := [(0, .ref 0), (1, .ref c1), (2, .int a2), (3, .int a3)]) (st1 := [.ref 0, .int (aI hp 7 (Int32.ofInt 0).toNatClampNeg), .ref c1, .ref 21]) 1 (fun _ _ _ _ => rfl) ?_
  refine py_g1 1 (pc := 15) (len := 3) (cs := [0]) rfl rfl rfl List.mem_cons_self hS ?_
  refine py_g1 7 (pc := 18) (len := 3) (cs := [1]) rfl rfl rfl List.mem_cons_self hS ?_
  refine py_its (pc := 21) (pc1 := 22) (lv1 := [(0, .ref 0), (1, .ref c1), (2, .int a2), (3, .int a3)]) (st1 := [.int (Int32.ofInt 1), .ref 7, .int (aI hp 7 (Int32.ofInt 0).toNatClampNeg), .ref c1, .ref 21]) 1 (fun _ _ _ _ => rfl) ?_
  refine py_ai (pc := 22) (len := 1) (cs := [7]) (t := 17) (n := 2) rfl rfl rfl rfl List.mem_cons_self hS ?_
  refine py_its (pc := 23) (pc1 := 24) (lv1 := [(0, .ref 0), (1, .ref c1), (2, .int a2), (3, .int a3)]) (st1 := [.int a2, .int (aI hp 7 (Int32.ofInt 1).toNatClampNeg), .int (aI hp 7 (Int32.ofInt 0).toNatClampNeg), .ref c1, .ref 21]) 1 (fun _ _ _ _ => rfl) ?_
  obtain ⟨q1, hq2, h⟩ := bd_e h
  obtain ⟨hC3, hS4⟩ := fx_Course_set hc1 hS hq2
  refine py_vi (pc := 24) (mi := mi_Course_set) (cs := [21]) (N := mm_Course_set) rfl rfl rfl rfl List.mem_cons_self hS rfl (Nat.le_of_ble_eq_true rfl) (Nat.le_of_ble_eq_true rfl) rfl rfl hC3 ?_
  show px_Y mm_X_walkBy 27 [(0, .ref 0), (1, .ref c1), (2, .int a2), (3, .int a3)] [] q1 _ _
  refine py_its (pc := 27) (pc1 := 28) (lv1 := [(0, .ref 0), (1, .ref c1), (2, .int a2), (3, .int a3)]) (st1 := [.ref 0]) 1 (fun _ _ _ _ => rfl) ?_
  refine py_g1 28 (pc := 28) (len := 3) (cs := [0]) rfl rfl rfl List.mem_cons_self hS4 ?_
  refine py_its (pc := 31) (pc1 := 32) (lv1 := [(0, .ref 0), (1, .ref c1), (2, .int a2), (3, .int a3)]) (st1 := [.ref 0, .ref 28]) 1 (fun _ _ _ _ => rfl) ?_
  refine py_g1 19 (pc := 32) (len := 3) (cs := [0]) rfl rfl rfl List.mem_cons_self hS4 ?_
  obtain ⟨q5, hq6, h⟩ := bd_e h
  obtain ⟨hC7, hS8⟩ := fx_Walk_start (List.mem_of_elem_eq_true rfl) hS4 hq6
  refine py_vi (pc := 35) (mi := mi_Walk_start) (cs := [28]) (N := mm_Walk_start) rfl rfl rfl rfl List.mem_cons_self hS4 rfl (Nat.le_of_ble_eq_true rfl) (Nat.le_of_ble_eq_true rfl) rfl rfl hC7 ?_
  show px_Y mm_X_walkBy 38 [(0, .ref 0), (1, .ref c1), (2, .int a2), (3, .int a3)] [] q5 _ _
  refine py_its (pc := 38) (pc1 := 42) (lv1 := [(4, .int (Int32.ofInt 1)), (0, .ref 0), (1, .ref c1), (2, .int a2), (3, .int a3)]) (st1 := [.ref 0]) 3 (fun _ _ _ _ => rfl) ?_
  refine py_g1 19 (pc := 42) (len := 3) (cs := [0]) rfl rfl rfl List.mem_cons_self hS8 ?_
  refine py_gI (pc := 45) (len := 3) (cs := [19]) rfl rfl rfl List.mem_cons_self hS8 ?_
  refine py_its (pc := 48) (pc1 := 50) (lv1 := [(5, .int (gI q5 19 2)), (4, .int (Int32.ofInt 1)), (0, .ref 0), (1, .ref c1), (2, .int a2), (3, .int a3)]) (st1 := []) 1 (fun _ _ _ _ => rfl) ?_
  exact fl_X_walkBy_L50 fu (Int32.ofInt 1) (gI q5 19 2) q5 [(5, .int (gI q5 19 2)), (4, .int (Int32.ofInt 1)), (0, .ref 0), (1, .ref c1), (2, .int a2), (3, .int a3)] _ hS8 ⟨rfl, rfl, rfl, rfl, trivial⟩ h
/-! Table_sittingAt -/
noncomputable def fn_Table_sittingAt (c0 : Nat) (a1 : Int32) (hp : px_H) : Option (Int32) :=
  bif px_inR a1 3000 then
  some ((sx_lus (aL hp (gR hp c0 0) a1.toNatClampNeg) (Int8.ofInt 50).toInt32).toInt32 &&& (Int16.ofInt 1023).toInt32)
  else none
theorem fx_Table_sittingAt {c0 : Nat} {a1 : Int32} {hp : px_H} {res : Int32} (hc0 : c0 ∈ [29, 35, 41]) (hS : oS hp) (h : fn_Table_sittingAt c0 a1 hp = some res) : px_C nm_T nm_P mi_Table_sittingAt [.ref c0, .int a1] hp (some (.int res)) hp ∧ oS hp := by
  unfold fn_Table_sittingAt at h
  refine py_C (M := mm_Table_sittingAt) rfl (Nat.le_of_ble_eq_true rfl) ?_
  show px_Y mm_Table_sittingAt 0 [(0, .ref c0), (1, .int a1)] [] hp _ _
  refine py_its (pc := 0) (pc1 := 1) (lv1 := [(0, .ref c0), (1, .int a1)]) (st1 := [.ref c0]) 1 (fun _ _ _ _ => rfl) ?_
  refine py_gR [30, 36, 42] (pc := 1) (len := 3) (cs := [29, 35, 41]) rfl rfl rfl hc0 hS (fun hm1 => ?_)
  refine py_its (pc := 4) (pc1 := 5) (lv1 := [(0, .ref c0), (1, .int a1)]) (st1 := [.int a1, .ref (gR hp c0 0)]) 1 (fun _ _ _ _ => rfl) ?_
  obtain ⟨hi2, h⟩ := cd_n h
  refine py_al (pc := 5) (len := 1) (cs := [30, 36, 42]) (t := 6) (n := 3000) rfl rfl rfl hi2 hm1 hS ?_
  refine py_its (pc := 6) (pc1 := 14) (lv1 := [(0, .ref c0), (1, .int a1)]) (st1 := [.int ((sx_lus (aL hp (gR hp c0 0) a1.toNatClampNeg) (Int8.ofInt 50).toInt32).toInt32 &&& (Int16.ofInt 1023).toInt32)]) 5 (fun _ _ _ _ => rfl) ?_
  have h := Option.some.inj h
  subst h
  exact py_ir (pc := 14) (len := 1) (ty := .int) rfl rfl rfl hS
/-! Walk_chanceOfAny -/
noncomputable def fb_Walk_chanceOfAny_L5 (v1 : Int32) (hp : px_H) (rc : Int64 → Int32 → Option (Int64)) (v2 : Int64) (v4 : Int32) : Option (Int64) :=
  bif px_cmp .ge v4 (gI hp (gR hp 28 2) 3) then
    some v2
  else
    (fn_Table_sittingAt (gR hp 28 2) v4 hp).bind fun q4 =>
    bif px_cmp .eq (q4 &&& v1) 0 then
      rc v2 (v4 + Int32.ofInt 1)
    else
      bif px_inR v4 3000 then
      rc (v2 + (aL hp (gR hp (gR hp 28 2) 2) v4.toNatClampNeg)) (v4 + Int32.ofInt 1)
      else none
noncomputable def fn_Walk_chanceOfAny_L5 (v1 : Int32) (hp : px_H) : Nat → Int64 → Int32 → Option (Int64)
  | 0 => fun _ _ => none
  | n + 1 => fb_Walk_chanceOfAny_L5 v1 hp (fn_Walk_chanceOfAny_L5 v1 hp n)
theorem fl_Walk_chanceOfAny_L5 {v1 : Int32} {hp : px_H}  : ∀ (n : Nat) (v2 : Int64) (v4 : Int32) (lv : List (Nat × Value)) (res : Int64), oS hp → lk lv [(0, .ref 28), (1, .int v1), (2, .long v2), (4, .int v4)] → fn_Walk_chanceOfAny_L5 v1 hp n v2 v4 = some res → px_Y mm_Walk_chanceOfAny 5 lv [] hp (some (.long res)) hp := by
  intro n
  induction n with
  | zero =>
    intro v2 v4 lv res hS hk h
    cases h
  | succ n ih =>
    intro v2 v4 lv res hS hk h
    have h : fb_Walk_chanceOfAny_L5 v1 hp (fn_Walk_chanceOfAny_L5 v1 hp n) v2 v4 = some res := h
    unfold fb_Walk_chanceOfAny_L5 at h
    refine py_il (pc := 5) (len := 2) (j := 4) rfl hk rfl ?_
    refine py_aln (pc := 7) (len := 1) (j := 0) rfl hk rfl ?_
    refine py_gR [29, 35, 41] (pc := 8) (len := 3) (cs := [28]) rfl rfl rfl List.mem_cons_self hS (fun hm1 => ?_)
    refine py_gI (pc := 11) (len := 3) (cs := [29, 35, 41]) rfl rfl rfl hm1 hS ?_
    cases hb2 : px_cmp .ge v4 (gI hp (gR hp 28 2) 3) with
    | true =>
      have h := cd_t hb2 h
      refine py_ic (pc := 14) (len := 3) true rfl hb2 ?_
      refine py_lln (pc := 50) (len := 1) (j := 2) rfl hk rfl ?_
      have h := Option.some.inj h
      subst h
      exact py_lr (pc := 51) (len := 1) rfl rfl hS
    | false =>
      have h := cd_f hb2 h
      refine py_ic (pc := 14) (len := 3) false rfl hb2 ?_
      refine py_aln (pc := 17) (len := 1) (j := 0) rfl hk rfl ?_
      refine py_gR [29, 35, 41] (pc := 18) (len := 3) (cs := [28]) rfl rfl rfl List.mem_cons_self hS (fun hm3 => ?_)
      refine py_il (pc := 21) (len := 2) (j := 4) rfl hk rfl ?_
      obtain ⟨q4, hq5, h⟩ := bd_e h
      have hC6 := (fx_Table_sittingAt hm3 hS hq5).1
      refine py_vi (pc := 23) (mi := mi_Table_sittingAt) (cs := [29, 35, 41]) (N := mm_Table_sittingAt) rfl rfl rfl rfl hm3 hS rfl (Nat.le_of_ble_eq_true rfl) (Nat.le_of_ble_eq_true rfl) rfl rfl hC6 ?_
      show px_Y mm_Walk_chanceOfAny 26 lv [.int q4] hp _ _
      refine py_iln (pc := 26) (len := 1) (j := 1) rfl hk rfl ?_
      refine py_its (pc := 27) (pc1 := 28) (lv1 := lv) (st1 := [.int (q4 &&& v1)]) 1 (fun _ _ _ _ => rfl) ?_
      cases hb7 : px_cmp .eq (q4 &&& v1) 0 with
      | true =>
        have h := cd_t hb7 h
        refine py_if (pc := 28) (len := 3) true rfl hb7 ?_
        refine py_inc (pc := 44) (len := 3) (j := 4) (n := 1) rfl rfl hk rfl (fun lv8 hk9 => ?_)
        have hk9 : lk lv8 [(4, .int (v4 + Int32.ofInt 1)), (0, .ref 28), (1, .int v1), (2, .long v2)] := hk9
        refine py_its (pc := 47) (pc1 := 5) (lv1 := lv8) (st1 := []) 1 (fun _ _ _ _ => rfl) ?_
        exact ih v2 (v4 + Int32.ofInt 1) lv8 _ hS ⟨lk_find hk9 rfl, lk_find hk9 rfl, lk_find hk9 rfl, lk_find hk9 rfl, trivial⟩ h
      | false =>
        have h := cd_f hb7 h
        refine py_if (pc := 28) (len := 3) false rfl hb7 ?_
        refine py_lln (pc := 31) (len := 1) (j := 2) rfl hk rfl ?_
        refine py_aln (pc := 32) (len := 1) (j := 0) rfl hk rfl ?_
        refine py_gR [29, 35, 41] (pc := 33) (len := 3) (cs := [28]) rfl rfl rfl List.mem_cons_self hS (fun hm10 => ?_)
        refine py_gR [32, 38, 44] (pc := 36) (len := 3) (cs := [29, 35, 41]) rfl rfl rfl hm10 hS (fun hm11 => ?_)
        refine py_il (pc := 39) (len := 2) (j := 4) rfl hk rfl ?_
        obtain ⟨hi12, h⟩ := cd_n h
        refine py_al (pc := 41) (len := 1) (cs := [32, 38, 44]) (t := 8) (n := 3000) rfl rfl rfl hi12 hm11 hS ?_
        refine py_its (pc := 42) (pc1 := 43) (lv1 := lv) (st1 := [.long (v2 + (aL hp (gR hp (gR hp 28 2) 2) v4.toNatClampNeg))]) 1 (fun _ _ _ _ => rfl) ?_
        refine py_sln (pc := 43) (len := 1) (j := 2) rfl rfl hk (fun lv13 hk14 => ?_)
        have hk14 : lk lv13 [(2, .long (v2 + (aL hp (gR hp (gR hp 28 2) 2) v4.toNatClampNeg))), (0, .ref 28), (1, .int v1), (4, .int v4)] := hk14
        refine py_inc (pc := 44) (len := 3) (j := 4) (n := 1) rfl rfl hk14 rfl (fun lv15 hk16 => ?_)
        have hk16 : lk lv15 [(4, .int (v4 + Int32.ofInt 1)), (2, .long (v2 + (aL hp (gR hp (gR hp 28 2) 2) v4.toNatClampNeg))), (0, .ref 28), (1, .int v1)] := hk16
        refine py_its (pc := 47) (pc1 := 5) (lv1 := lv15) (st1 := []) 1 (fun _ _ _ _ => rfl) ?_
        exact ih (v2 + (aL hp (gR hp (gR hp 28 2) 2) v4.toNatClampNeg)) (v4 + Int32.ofInt 1) lv15 _ hS ⟨lk_find hk16 rfl, lk_find hk16 rfl, lk_find hk16 rfl, lk_find hk16 rfl, trivial⟩ h
noncomputable def fn_Walk_chanceOfAny (a1 : Int32) (hp : px_H) : Option (Int64) :=
  fn_Walk_chanceOfAny_L5 a1 hp fu (Int64.ofNat 0) (Int32.ofInt 0)
theorem fx_Walk_chanceOfAny {a1 : Int32} {hp : px_H} {res : Int64} (hS : oS hp) (h : fn_Walk_chanceOfAny a1 hp = some res) : px_C nm_T nm_P mi_Walk_chanceOfAny [.ref 28, .int a1] hp (some (.long res)) hp ∧ oS hp := by
  unfold fn_Walk_chanceOfAny at h
  refine py_C (M := mm_Walk_chanceOfAny) rfl (Nat.le_of_ble_eq_true rfl) ?_
  show px_Y mm_Walk_chanceOfAny 0 [(0, .ref 28), (1, .int a1)] [] hp _ _
  refine py_its (pc := 0) (pc1 := 5) (lv1 := [(4, .int (Int32.ofInt 0)), (2, .long (Int64.ofNat 0)), (0, .ref 28), (1, .int a1)]) (st1 := []) 4 (fun _ _ _ _ => rfl) ?_
  exact fl_Walk_chanceOfAny_L5 fu (Int64.ofNat 0) (Int32.ofInt 0) [(4, .int (Int32.ofInt 0)), (2, .long (Int64.ofNat 0)), (0, .ref 28), (1, .int a1)] _ hS ⟨rfl, rfl, rfl, rfl, trivial⟩ h
/-! Row_tellOne -/
noncomputable def fn_Row_tellOne (a1 : Int64) (hp : px_H) : Option (px_H) :=
  (fn_Row_clear hp).bind fun q1 =>
  (fn_Row_tell a1 q1).bind fun q5 =>
  some q5
theorem fx_Row_tellOne {a1 : Int64} {hp : px_H} {res : px_H} (hS : oS hp) (h : fn_Row_tellOne a1 hp = some res) : px_C nm_T nm_P mi_Row_tellOne [.ref 48, .long a1] hp none res ∧ oS res := by
  unfold fn_Row_tellOne at h
  refine py_C (M := mm_Row_tellOne) rfl (Nat.le_of_ble_eq_true rfl) ?_
  show px_Y mm_Row_tellOne 0 [(0, .ref 48), (1, .long a1)] [] hp _ _
  refine py_its (pc := 0) (pc1 := 1) (lv1 := [(0, .ref 48), (1, .long a1)]) (st1 := [.ref 48]) 1 (fun _ _ _ _ => rfl) ?_
  obtain ⟨q1, hq2, h⟩ := bd_e h
  obtain ⟨hC3, hS4⟩ := fx_Row_clear hS hq2
  refine py_vi (pc := 1) (mi := mi_Row_clear) (cs := [48]) (N := mm_Row_clear) rfl rfl rfl rfl List.mem_cons_self hS rfl (Nat.le_of_ble_eq_true rfl) (Nat.le_of_ble_eq_true rfl) rfl rfl hC3 ?_
  show px_Y mm_Row_tellOne 4 [(0, .ref 48), (1, .long a1)] [] q1 _ _
  refine py_its (pc := 4) (pc1 := 6) (lv1 := [(0, .ref 48), (1, .long a1)]) (st1 := [.long a1, .ref 48]) 2 (fun _ _ _ _ => rfl) ?_
  obtain ⟨q5, hq6, h⟩ := bd_e h
  obtain ⟨hC7, hS8⟩ := fx_Row_tell hS4 hq6
  refine py_vi (pc := 6) (mi := mi_Row_tell) (cs := [48]) (N := mm_Row_tell) rfl rfl rfl rfl List.mem_cons_self hS4 rfl (Nat.le_of_ble_eq_true rfl) (Nat.le_of_ble_eq_true rfl) rfl rfl hC7 ?_
  show px_Y mm_Row_tellOne 9 [(0, .ref 48), (1, .long a1)] [] q5 _ _
  have h := Option.some.inj h
  subst h
  exact py_rt (pc := 9) (len := 1) rfl rfl hS8
/-! X_chance -/
noncomputable def fn_X_chance (a1 : Int32) (a2 : Int32) (hp : px_H) : Option (Int32 × px_H) :=
  (fn_Town_hasPerson a1 hp).bind fun q1 =>
  bif px_cmp .eq q1 0 then
    some ((Int32.ofInt (-1)), hp)
  else
    (fn_X_isAhead a2 hp).bind fun q5 =>
    bif px_cmp .ne q5 0 then
      (fn_X_walkBy 14 (Int32.ofInt 0) a2 hp).bind fun q9 =>
      bif px_cmp .ne q9.1 0 then
        (fn_Walk_chanceOfAny ((Int32.ofInt 1) <<< (a1 &&& 31)) q9.2).bind fun q14 =>
        (fn_Row_tellOne q14 q9.2).bind fun q17 =>
        some ((Int32.ofInt 0), q17)
      else
        some ((Int8.ofInt (-3)).toInt32, q9.2)
    else
      some ((Int32.ofInt (-1)), hp)
theorem fx_X_chance {a1 : Int32} {a2 : Int32} {hp : px_H} {res : Int32 × px_H} (hS : oS hp) (h : fn_X_chance a1 a2 hp = some res) : px_C nm_T nm_P mi_X_chance [.ref 0, .int a1, .int a2] hp (some (.int res.1)) res.2 ∧ oS res.2 := by
  unfold fn_X_chance at h
  refine py_C (M := mm_X_chance) rfl (Nat.le_of_ble_eq_true rfl) ?_
  show px_Y mm_X_chance 0 [(0, .ref 0), (1, .int a1), (2, .int a2)] [] hp _ _
  refine py_its (pc := 0) (pc1 := 1) (lv1 := [(0, .ref 0), (1, .int a1), (2, .int a2)]) (st1 := [.ref 0]) 1 (fun _ _ _ _ => rfl) ?_
  refine py_g1 1 (pc := 1) (len := 3) (cs := [0]) rfl rfl rfl List.mem_cons_self hS ?_
  refine py_its (pc := 4) (pc1 := 5) (lv1 := [(0, .ref 0), (1, .int a1), (2, .int a2)]) (st1 := [.int a1, .ref 1]) 1 (fun _ _ _ _ => rfl) ?_
  obtain ⟨q1, hq2, h⟩ := bd_e h
  have hC3 := (fx_Town_hasPerson hS hq2).1
  refine py_vi (pc := 5) (mi := mi_Town_hasPerson) (cs := [1]) (N := mm_Town_hasPerson) rfl rfl rfl rfl List.mem_cons_self hS rfl (Nat.le_of_ble_eq_true rfl) (Nat.le_of_ble_eq_true rfl) rfl rfl hC3 ?_
  show px_Y mm_X_chance 8 [(0, .ref 0), (1, .int a1), (2, .int a2)] [.int q1] hp _ _
  cases hb4 : px_cmp .eq q1 0 with
  | true =>
    have h := cd_t hb4 h
    refine py_if (pc := 8) (len := 3) true rfl hb4 ?_
    refine py_its (pc := 19) (pc1 := 20) (lv1 := [(0, .ref 0), (1, .int a1), (2, .int a2)]) (st1 := [.int (Int32.ofInt (-1))]) 1 (fun _ _ _ _ => rfl) ?_
    have h := Option.some.inj h
    subst h
    exact py_ir (pc := 20) (len := 1) (ty := .int) rfl rfl rfl hS
  | false =>
    have h := cd_f hb4 h
    refine py_if (pc := 8) (len := 3) false rfl hb4 ?_
    refine py_its (pc := 11) (pc1 := 13) (lv1 := [(0, .ref 0), (1, .int a1), (2, .int a2)]) (st1 := [.int a2, .ref 0]) 2 (fun _ _ _ _ => rfl) ?_
    obtain ⟨q5, hq6, h⟩ := bd_e h
    have hC7 := (fx_X_isAhead hS hq6).1
    refine py_vi (pc := 13) (mi := mi_X_isAhead) (cs := [0]) (N := mm_X_isAhead) rfl rfl rfl rfl List.mem_cons_self hS rfl (Nat.le_of_ble_eq_true rfl) (Nat.le_of_ble_eq_true rfl) rfl rfl hC7 ?_
    show px_Y mm_X_chance 16 [(0, .ref 0), (1, .int a1), (2, .int a2)] [.int q5] hp _ _
    cases hb8 : px_cmp .ne q5 0 with
    | true =>
      have h := cd_t hb8 h
      refine py_if (pc := 16) (len := 3) true rfl hb8 ?_
      refine py_its (pc := 21) (pc1 := 23) (lv1 := [(0, .ref 0), (1, .int a1), (2, .int a2)]) (st1 := [.ref 0, .ref 0]) 2 (fun _ _ _ _ => rfl) ?_
      refine py_g1 14 (pc := 23) (len := 3) (cs := [0]) rfl rfl rfl List.mem_cons_self hS ?_
      refine py_its (pc := 26) (pc1 := 28) (lv1 := [(0, .ref 0), (1, .int a1), (2, .int a2)]) (st1 := [.int a2, .int (Int32.ofInt 0), .ref 14, .ref 0]) 2 (fun _ _ _ _ => rfl) ?_
      obtain ⟨q9, hq10, h⟩ := bd_e h
      obtain ⟨hC11, hS12⟩ := fx_X_walkBy (List.mem_of_elem_eq_true rfl) hS hq10
      refine py_vi (pc := 28) (mi := mi_X_walkBy) (cs := [0]) (N := mm_X_walkBy) rfl rfl rfl rfl List.mem_cons_self hS rfl (Nat.le_of_ble_eq_true rfl) (Nat.le_of_ble_eq_true rfl) rfl rfl hC11 ?_
      show px_Y mm_X_chance 31 [(0, .ref 0), (1, .int a1), (2, .int a2)] [.int q9.1] q9.2 _ _
      cases hb13 : px_cmp .ne q9.1 0 with
      | true =>
        have h := cd_t hb13 h
        refine py_if (pc := 31) (len := 3) true rfl hb13 ?_
        refine py_its (pc := 37) (pc1 := 38) (lv1 := [(0, .ref 0), (1, .int a1), (2, .int a2)]) (st1 := [.ref 0]) 1 (fun _ _ _ _ => rfl) ?_
        refine py_g1 48 (pc := 38) (len := 3) (cs := [0]) rfl rfl rfl List.mem_cons_self hS12 ?_
        refine py_its (pc := 41) (pc1 := 42) (lv1 := [(0, .ref 0), (1, .int a1), (2, .int a2)]) (st1 := [.ref 0, .ref 48]) 1 (fun _ _ _ _ => rfl) ?_
        refine py_g1 28 (pc := 42) (len := 3) (cs := [0]) rfl rfl rfl List.mem_cons_self hS12 ?_
        refine py_its (pc := 45) (pc1 := 48) (lv1 := [(0, .ref 0), (1, .int a1), (2, .int a2)]) (st1 := [.int ((Int32.ofInt 1) <<< (a1 &&& 31)), .ref 28, .ref 48]) 3 (fun _ _ _ _ => rfl) ?_
        obtain ⟨q14, hq15, h⟩ := bd_e h
        have hC16 := (fx_Walk_chanceOfAny hS12 hq15).1
        refine py_vi (pc := 48) (mi := mi_Walk_chanceOfAny) (cs := [28]) (N := mm_Walk_chanceOfAny) rfl rfl rfl rfl List.mem_cons_self hS12 rfl (Nat.le_of_ble_eq_true rfl) (Nat.le_of_ble_eq_true rfl) rfl rfl hC16 ?_
        show px_Y mm_X_chance 51 [(0, .ref 0), (1, .int a1), (2, .int a2)] [.long q14, .ref 48] q9.2 _ _
        obtain ⟨q17, hq18, h⟩ := bd_e h
        obtain ⟨hC19, hS20⟩ := fx_Row_tellOne hS12 hq18
        refine py_vi (pc := 51) (mi := mi_Row_tellOne) (cs := [48]) (N := mm_Row_tellOne) rfl rfl rfl rfl List.mem_cons_self hS12 rfl (Nat.le_of_ble_eq_true rfl) (Nat.le_of_ble_eq_true rfl) rfl rfl hC19 ?_
        show px_Y mm_X_chance 54 [(0, .ref 0), (1, .int a1), (2, .int a2)] [] q17 _ _
        refine py_its (pc := 54) (pc1 := 55) (lv1 := [(0, .ref 0), (1, .int a1), (2, .int a2)]) (st1 := [.int (Int32.ofInt 0)]) 1 (fun _ _ _ _ => rfl) ?_
        have h := Option.some.inj h
        subst h
        exact py_ir (pc := 55) (len := 1) (ty := .int) rfl rfl rfl hS20
      | false =>
        have h := cd_f hb13 h
        refine py_if (pc := 31) (len := 3) false rfl hb13 ?_
        refine py_its (pc := 34) (pc1 := 36) (lv1 := [(0, .ref 0), (1, .int a1), (2, .int a2)]) (st1 := [.int (Int8.ofInt (-3)).toInt32]) 1 (fun _ _ _ _ => rfl) ?_
        have h := Option.some.inj h
        subst h
        exact py_ir (pc := 36) (len := 1) (ty := .int) rfl rfl rfl hS12
    | false =>
      have h := cd_f hb8 h
      refine py_if (pc := 16) (len := 3) false rfl hb8 ?_
      refine py_its (pc := 19) (pc1 := 20) (lv1 := [(0, .ref 0), (1, .int a1), (2, .int a2)]) (st1 := [.int (Int32.ofInt (-1))]) 1 (fun _ _ _ _ => rfl) ?_
      have h := Option.some.inj h
      subst h
      exact py_ir (pc := 20) (len := 1) (ty := .int) rfl rfl rfl hS
/-! X_each -/
noncomputable def fb_X_each_L35  (rc : Int32 → px_H → Option (Int32 × px_H)) (v2 : Int32) (hp : px_H) : Option (Int32 × px_H) :=
  bif px_cmp .ge v2 (gI hp 1 0) then
    some ((Int32.ofInt 0), hp)
  else
    (fn_Walk_chanceOfAny ((Int32.ofInt 1) <<< (v2 &&& 31)) hp).bind fun q15 =>
    (fn_Row_tell q15 hp).bind fun q18 =>
    rc (v2 + Int32.ofInt 1) q18
noncomputable def fn_X_each_L35  : Nat → Int32 → px_H → Option (Int32 × px_H)
  | 0 => fun _ _ => none
  | n + 1 => fb_X_each_L35  (fn_X_each_L35  n)
theorem fl_X_each_L35   : ∀ (n : Nat) (v2 : Int32) (hp : px_H) (lv : List (Nat × Value)) (res : Int32 × px_H), oS hp → lk lv [(0, .ref 0), (2, .int v2)] → fn_X_each_L35  n v2 hp = some res → px_Y mm_X_each 35 lv [] hp (some (.int res.1)) res.2 := by
  intro n
  induction n with
  | zero =>
    intro v2 hp lv res hS hk h
    cases h
  | succ n ih =>
    intro v2 hp lv res hS hk h
    have h : fb_X_each_L35  (fn_X_each_L35  n) v2 hp = some res := h
    unfold fb_X_each_L35 at h
    refine py_iln (pc := 35) (len := 1) (j := 2) rfl hk rfl ?_
    refine py_aln (pc := 36) (len := 1) (j := 0) rfl hk rfl ?_
    refine py_g1 1 (pc := 37) (len := 3) (cs := [0]) rfl rfl rfl List.mem_cons_self hS ?_
    refine py_gI (pc := 40) (len := 3) (cs := [1]) rfl rfl rfl List.mem_cons_self hS ?_
    cases hb14 : px_cmp .ge v2 (gI hp 1 0) with
    | true =>
      have h := cd_t hb14 h
      refine py_ic (pc := 43) (len := 3) true rfl hb14 ?_
      refine py_its (pc := 69) (pc1 := 70) (lv1 := lv) (st1 := [.int (Int32.ofInt 0)]) 1 (fun _ _ _ _ => rfl) ?_
      have h := Option.some.inj h
      subst h
      exact py_ir (pc := 70) (len := 1) (ty := .int) rfl rfl rfl hS
    | false =>
      have h := cd_f hb14 h
      refine py_ic (pc := 43) (len := 3) false rfl hb14 ?_
      refine py_aln (pc := 46) (len := 1) (j := 0) rfl hk rfl ?_
      refine py_g1 48 (pc := 47) (len := 3) (cs := [0]) rfl rfl rfl List.mem_cons_self hS ?_
      refine py_aln (pc := 50) (len := 1) (j := 0) rfl hk rfl ?_
      refine py_g1 28 (pc := 51) (len := 3) (cs := [0]) rfl rfl rfl List.mem_cons_self hS ?_
      refine py_its (pc := 54) (pc1 := 55) (lv1 := lv) (st1 := [.int (Int32.ofInt 1), .ref 28, .ref 48]) 1 (fun _ _ _ _ => rfl) ?_
      refine py_iln (pc := 55) (len := 1) (j := 2) rfl hk rfl ?_
      refine py_its (pc := 56) (pc1 := 57) (lv1 := lv) (st1 := [.int ((Int32.ofInt 1) <<< (v2 &&& 31)), .ref 28, .ref 48]) 1 (fun _ _ _ _ => rfl) ?_
      obtain ⟨q15, hq16, h⟩ := bd_e h
      have hC17 := (fx_Walk_chanceOfAny hS hq16).1
      refine py_vi (pc := 57) (mi := mi_Walk_chanceOfAny) (cs := [28]) (N := mm_Walk_chanceOfAny) rfl rfl rfl rfl List.mem_cons_self hS rfl (Nat.le_of_ble_eq_true rfl) (Nat.le_of_ble_eq_true rfl) rfl rfl hC17 ?_
      show px_Y mm_X_each 60 lv [.long q15, .ref 48] hp _ _
      obtain ⟨q18, hq19, h⟩ := bd_e h
      obtain ⟨hC20, hS21⟩ := fx_Row_tell hS hq19
      refine py_vi (pc := 60) (mi := mi_Row_tell) (cs := [48]) (N := mm_Row_tell) rfl rfl rfl rfl List.mem_cons_self hS rfl (Nat.le_of_ble_eq_true rfl) (Nat.le_of_ble_eq_true rfl) rfl rfl hC20 ?_
      show px_Y mm_X_each 63 lv [] q18 _ _
      refine py_inc (pc := 63) (len := 3) (j := 2) (n := 1) rfl rfl hk rfl (fun lv22 hk23 => ?_)
      have hk23 : lk lv22 [(2, .int (v2 + Int32.ofInt 1)), (0, .ref 0)] := hk23
      refine py_its (pc := 66) (pc1 := 35) (lv1 := lv22) (st1 := []) 1 (fun _ _ _ _ => rfl) ?_
      exact ih (v2 + Int32.ofInt 1) q18 lv22 _ hS21 ⟨lk_find hk23 rfl, lk_find hk23 rfl, trivial⟩ h
noncomputable def fn_X_each (a1 : Int32) (hp : px_H) : Option (Int32 × px_H) :=
  (fn_X_isAhead a1 hp).bind fun q1 =>
  bif px_cmp .ne q1 0 then
    (fn_X_walkBy 14 (Int32.ofInt 0) a1 hp).bind fun q5 =>
    bif px_cmp .ne q5.1 0 then
      (fn_Row_clear q5.2).bind fun q10 =>
      fn_X_each_L35 fu (Int32.ofInt 0) q10
    else
      some ((Int8.ofInt (-3)).toInt32, q5.2)
  else
    some ((Int32.ofInt (-1)), hp)
theorem fx_X_each {a1 : Int32} {hp : px_H} {res : Int32 × px_H} (hS : oS hp) (h : fn_X_each a1 hp = some res) : px_C nm_T nm_P mi_X_each [.ref 0, .int a1] hp (some (.int res.1)) res.2 ∧ oS res.2 := by
  unfold fn_X_each at h
  refine py_C (M := mm_X_each) rfl (Nat.le_of_ble_eq_true rfl) ?_
  show px_Y mm_X_each 0 [(0, .ref 0), (1, .int a1)] [] hp _ _
  refine py_its (pc := 0) (pc1 := 2) (lv1 := [(0, .ref 0), (1, .int a1)]) (st1 := [.int a1, .ref 0]) 2 (fun _ _ _ _ => rfl) ?_
  obtain ⟨q1, hq2, h⟩ := bd_e h
  have hC3 := (fx_X_isAhead hS hq2).1
  refine py_vi (pc := 2) (mi := mi_X_isAhead) (cs := [0]) (N := mm_X_isAhead) rfl rfl rfl rfl List.mem_cons_self hS rfl (Nat.le_of_ble_eq_true rfl) (Nat.le_of_ble_eq_true rfl) rfl rfl hC3 ?_
  show px_Y mm_X_each 5 [(0, .ref 0), (1, .int a1)] [.int q1] hp _ _
  cases hb4 : px_cmp .ne q1 0 with
  | true =>
    have h := cd_t hb4 h
    refine py_if (pc := 5) (len := 3) true rfl hb4 ?_
    refine py_its (pc := 10) (pc1 := 12) (lv1 := [(0, .ref 0), (1, .int a1)]) (st1 := [.ref 0, .ref 0]) 2 (fun _ _ _ _ => rfl) ?_
    refine py_g1 14 (pc := 12) (len := 3) (cs := [0]) rfl rfl rfl List.mem_cons_self hS ?_
    refine py_its (pc := 15) (pc1 := 17) (lv1 := [(0, .ref 0), (1, .int a1)]) (st1 := [.int a1, .int (Int32.ofInt 0), .ref 14, .ref 0]) 2 (fun _ _ _ _ => rfl) ?_
    obtain ⟨q5, hq6, h⟩ := bd_e h
    obtain ⟨hC7, hS8⟩ := fx_X_walkBy (List.mem_of_elem_eq_true rfl) hS hq6
    refine py_vi (pc := 17) (mi := mi_X_walkBy) (cs := [0]) (N := mm_X_walkBy) rfl rfl rfl rfl List.mem_cons_self hS rfl (Nat.le_of_ble_eq_true rfl) (Nat.le_of_ble_eq_true rfl) rfl rfl hC7 ?_
    show px_Y mm_X_each 20 [(0, .ref 0), (1, .int a1)] [.int q5.1] q5.2 _ _
    cases hb9 : px_cmp .ne q5.1 0 with
    | true =>
      have h := cd_t hb9 h
      refine py_if (pc := 20) (len := 3) true rfl hb9 ?_
      refine py_its (pc := 26) (pc1 := 27) (lv1 := [(0, .ref 0), (1, .int a1)]) (st1 := [.ref 0]) 1 (fun _ _ _ _ => rfl) ?_
      refine py_g1 48 (pc := 27) (len := 3) (cs := [0]) rfl rfl rfl List.mem_cons_self hS8 ?_
      obtain ⟨q10, hq11, h⟩ := bd_e h
      obtain ⟨hC12, hS13⟩ := fx_Row_clear hS8 hq11
      refine py_vi (pc := 30) (mi := mi_Row_clear) (cs := [48]) (N := mm_Row_clear) rfl rfl rfl rfl List.mem_cons_self hS8 rfl (Nat.le_of_ble_eq_true rfl) (Nat.le_of_ble_eq_true rfl) rfl rfl hC12 ?_
      show px_Y mm_X_each 33 [(0, .ref 0), (1, .int a1)] [] q10 _ _
      refine py_its (pc := 33) (pc1 := 35) (lv1 := [(2, .int (Int32.ofInt 0)), (0, .ref 0), (1, .int a1)]) (st1 := []) 2 (fun _ _ _ _ => rfl) ?_
      exact fl_X_each_L35 fu (Int32.ofInt 0) q10 [(2, .int (Int32.ofInt 0)), (0, .ref 0), (1, .int a1)] _ hS13 ⟨rfl, rfl, trivial⟩ h
    | false =>
      have h := cd_f hb9 h
      refine py_if (pc := 20) (len := 3) false rfl hb9 ?_
      refine py_its (pc := 23) (pc1 := 25) (lv1 := [(0, .ref 0), (1, .int a1)]) (st1 := [.int (Int8.ofInt (-3)).toInt32]) 1 (fun _ _ _ _ => rfl) ?_
      have h := Option.some.inj h
      subst h
      exact py_ir (pc := 25) (len := 1) (ty := .int) rfl rfl rfl hS8
  | false =>
    have h := cd_f hb4 h
    refine py_if (pc := 5) (len := 3) false rfl hb4 ?_
    refine py_its (pc := 8) (pc1 := 9) (lv1 := [(0, .ref 0), (1, .int a1)]) (st1 := [.int (Int32.ofInt (-1))]) 1 (fun _ _ _ _ => rfl) ?_
    have h := Option.some.inj h
    subst h
    exact py_ir (pc := 9) (len := 1) (ty := .int) rfl rfl rfl hS
/-! Walk_chanceSince -/
noncomputable def fb_Walk_chanceSince_L5 (v1 : Int32) (v2 : Int32) (hp : px_H) (rc : Int64 → Int32 → Option (Int64)) (v3 : Int64) (v5 : Int32) : Option (Int64) :=
  bif px_cmp .ge v5 (gI hp (gR hp 28 2) 3) then
    some v3
  else
    bif px_inR v5 3000 then
    (fn_X_lastIn (aI hp (gR hp (gR hp 28 2) 1) v5.toNatClampNeg) v1 hp).bind fun q6 =>
    bif px_cmp .lt q6 v2 then
      rc v3 (v5 + Int32.ofInt 1)
    else
      bif px_inR v5 3000 then
      rc (v3 + (aL hp (gR hp (gR hp 28 2) 2) v5.toNatClampNeg)) (v5 + Int32.ofInt 1)
      else none
    else none
noncomputable def fn_Walk_chanceSince_L5 (v1 : Int32) (v2 : Int32) (hp : px_H) : Nat → Int64 → Int32 → Option (Int64)
  | 0 => fun _ _ => none
  | n + 1 => fb_Walk_chanceSince_L5 v1 v2 hp (fn_Walk_chanceSince_L5 v1 v2 hp n)
theorem fl_Walk_chanceSince_L5 {v1 : Int32} {v2 : Int32} {hp : px_H}  : ∀ (n : Nat) (v3 : Int64) (v5 : Int32) (lv : List (Nat × Value)) (res : Int64), oS hp → lk lv [(0, .ref 28), (1, .int v1), (2, .int v2), (3, .long v3), (5, .int v5)] → fn_Walk_chanceSince_L5 v1 v2 hp n v3 v5 = some res → px_Y mm_Walk_chanceSince 5 lv [] hp (some (.long res)) hp := by
  intro n
  induction n with
  | zero =>
    intro v3 v5 lv res hS hk h
    cases h
  | succ n ih =>
    intro v3 v5 lv res hS hk h
    have h : fb_Walk_chanceSince_L5 v1 v2 hp (fn_Walk_chanceSince_L5 v1 v2 hp n) v3 v5 = some res := h
    unfold fb_Walk_chanceSince_L5 at h
    refine py_il (pc := 5) (len := 2) (j := 5) rfl hk rfl ?_
    refine py_aln (pc := 7) (len := 1) (j := 0) rfl hk rfl ?_
    refine py_gR [29, 35, 41] (pc := 8) (len := 3) (cs := [28]) rfl rfl rfl List.mem_cons_self hS (fun hm1 => ?_)
    refine py_gI (pc := 11) (len := 3) (cs := [29, 35, 41]) rfl rfl rfl hm1 hS ?_
    cases hb2 : px_cmp .ge v5 (gI hp (gR hp 28 2) 3) with
    | true =>
      have h := cd_t hb2 h
      refine py_ic (pc := 14) (len := 3) true rfl hb2 ?_
      refine py_lln (pc := 54) (len := 1) (j := 3) rfl hk rfl ?_
      have h := Option.some.inj h
      subst h
      exact py_lr (pc := 55) (len := 1) rfl rfl hS
    | false =>
      have h := cd_f hb2 h
      refine py_ic (pc := 14) (len := 3) false rfl hb2 ?_
      refine py_aln (pc := 17) (len := 1) (j := 0) rfl hk rfl ?_
      refine py_gR [29, 35, 41] (pc := 18) (len := 3) (cs := [28]) rfl rfl rfl List.mem_cons_self hS (fun hm3 => ?_)
      refine py_gR [31, 37, 43] (pc := 21) (len := 3) (cs := [29, 35, 41]) rfl rfl rfl hm3 hS (fun hm4 => ?_)
      refine py_il (pc := 24) (len := 2) (j := 5) rfl hk rfl ?_
      obtain ⟨hi5, h⟩ := cd_n h
      refine py_ai (pc := 26) (len := 1) (cs := [31, 37, 43]) (t := 7) (n := 3000) rfl rfl rfl hi5 hm4 hS ?_
      refine py_iln (pc := 27) (len := 1) (j := 1) rfl hk rfl ?_
      obtain ⟨q6, hq7, h⟩ := bd_e h
      have hC8 := (fx_X_lastIn hS hq7).1
      refine py_st (pc := 28) (mi := mi_X_lastIn) (N := mm_X_lastIn) rfl rfl rfl (Nat.le_of_ble_eq_true rfl) (Nat.le_of_ble_eq_true rfl) rfl rfl hC8 ?_
      show px_Y mm_Walk_chanceSince 31 lv [.int q6] hp _ _
      refine py_iln (pc := 31) (len := 1) (j := 2) rfl hk rfl ?_
      cases hb9 : px_cmp .lt q6 v2 with
      | true =>
        have h := cd_t hb9 h
        refine py_ic (pc := 32) (len := 3) true rfl hb9 ?_
        refine py_inc (pc := 48) (len := 3) (j := 5) (n := 1) rfl rfl hk rfl (fun lv10 hk11 => ?_)
        have hk11 : lk lv10 [(5, .int (v5 + Int32.ofInt 1)), (0, .ref 28), (1, .int v1), (2, .int v2), (3, .long v3)] := hk11
        refine py_its (pc := 51) (pc1 := 5) (lv1 := lv10) (st1 := []) 1 (fun _ _ _ _ => rfl) ?_
        exact ih v3 (v5 + Int32.ofInt 1) lv10 _ hS ⟨lk_find hk11 rfl, lk_find hk11 rfl, lk_find hk11 rfl, lk_find hk11 rfl, lk_find hk11 rfl, trivial⟩ h
      | false =>
        have h := cd_f hb9 h
        refine py_ic (pc := 32) (len := 3) false rfl hb9 ?_
        refine py_lln (pc := 35) (len := 1) (j := 3) rfl hk rfl ?_
        refine py_aln (pc := 36) (len := 1) (j := 0) rfl hk rfl ?_
        refine py_gR [29, 35, 41] (pc := 37) (len := 3) (cs := [28]) rfl rfl rfl List.mem_cons_self hS (fun hm12 => ?_)
        refine py_gR [32, 38, 44] (pc := 40) (len := 3) (cs := [29, 35, 41]) rfl rfl rfl hm12 hS (fun hm13 => ?_)
        refine py_il (pc := 43) (len := 2) (j := 5) rfl hk rfl ?_
        obtain ⟨hi14, h⟩ := cd_n h
        refine py_al (pc := 45) (len := 1) (cs := [32, 38, 44]) (t := 8) (n := 3000) rfl rfl rfl hi14 hm13 hS ?_
        refine py_its (pc := 46) (pc1 := 47) (lv1 := lv) (st1 := [.long (v3 + (aL hp (gR hp (gR hp 28 2) 2) v5.toNatClampNeg))]) 1 (fun _ _ _ _ => rfl) ?_
        refine py_sln (pc := 47) (len := 1) (j := 3) rfl rfl hk (fun lv15 hk16 => ?_)
        have hk16 : lk lv15 [(3, .long (v3 + (aL hp (gR hp (gR hp 28 2) 2) v5.toNatClampNeg))), (0, .ref 28), (1, .int v1), (2, .int v2), (5, .int v5)] := hk16
        refine py_inc (pc := 48) (len := 3) (j := 5) (n := 1) rfl rfl hk16 rfl (fun lv17 hk18 => ?_)
        have hk18 : lk lv17 [(5, .int (v5 + Int32.ofInt 1)), (3, .long (v3 + (aL hp (gR hp (gR hp 28 2) 2) v5.toNatClampNeg))), (0, .ref 28), (1, .int v1), (2, .int v2)] := hk18
        refine py_its (pc := 51) (pc1 := 5) (lv1 := lv17) (st1 := []) 1 (fun _ _ _ _ => rfl) ?_
        exact ih (v3 + (aL hp (gR hp (gR hp 28 2) 2) v5.toNatClampNeg)) (v5 + Int32.ofInt 1) lv17 _ hS ⟨lk_find hk18 rfl, lk_find hk18 rfl, lk_find hk18 rfl, lk_find hk18 rfl, lk_find hk18 rfl, trivial⟩ h
noncomputable def fn_Walk_chanceSince (a1 : Int32) (a2 : Int32) (hp : px_H) : Option (Int64) :=
  fn_Walk_chanceSince_L5 a1 a2 hp fu (Int64.ofNat 0) (Int32.ofInt 0)
theorem fx_Walk_chanceSince {a1 : Int32} {a2 : Int32} {hp : px_H} {res : Int64} (hS : oS hp) (h : fn_Walk_chanceSince a1 a2 hp = some res) : px_C nm_T nm_P mi_Walk_chanceSince [.ref 28, .int a1, .int a2] hp (some (.long res)) hp ∧ oS hp := by
  unfold fn_Walk_chanceSince at h
  refine py_C (M := mm_Walk_chanceSince) rfl (Nat.le_of_ble_eq_true rfl) ?_
  show px_Y mm_Walk_chanceSince 0 [(0, .ref 28), (1, .int a1), (2, .int a2)] [] hp _ _
  refine py_its (pc := 0) (pc1 := 5) (lv1 := [(5, .int (Int32.ofInt 0)), (3, .long (Int64.ofNat 0)), (0, .ref 28), (1, .int a1), (2, .int a2)]) (st1 := []) 4 (fun _ _ _ _ => rfl) ?_
  exact fl_Walk_chanceSince_L5 fu (Int64.ofNat 0) (Int32.ofInt 0) [(5, .int (Int32.ofInt 0)), (3, .long (Int64.ofNat 0)), (0, .ref 28), (1, .int a1), (2, .int a2)] _ hS ⟨rfl, rfl, rfl, rfl, rfl, trivial⟩ h
/-! X_ever -/
noncomputable def fn_X_ever (a1 : Int32) (hp : px_H) : Option (Int32 × px_H) :=
  (fn_Town_hasPerson a1 hp).bind fun q1 =>
  bif px_cmp .eq q1 0 then
    some ((Int32.ofInt (-1)), hp)
  else
    (fn_X_isDrawingLeft hp).bind fun q5 =>
    bif px_cmp .ne q5 0 then
      (fn_X_walkBy 14 (Int32.ofInt 0) ((gI hp 1 8) - (Int32.ofInt 1)) hp).bind fun q9 =>
      bif px_cmp .ne q9.1 0 then
        (fn_Walk_chanceSince a1 (gI q9.2 19 2) q9.2).bind fun q14 =>
        (fn_Row_tellOne q14 q9.2).bind fun q17 =>
        some ((Int32.ofInt 0), q17)
      else
        some ((Int8.ofInt (-3)).toInt32, q9.2)
    else
      some ((Int32.ofInt (-1)), hp)
theorem fx_X_ever {a1 : Int32} {hp : px_H} {res : Int32 × px_H} (hS : oS hp) (h : fn_X_ever a1 hp = some res) : px_C nm_T nm_P mi_X_ever [.ref 0, .int a1] hp (some (.int res.1)) res.2 ∧ oS res.2 := by
  unfold fn_X_ever at h
  refine py_C (M := mm_X_ever) rfl (Nat.le_of_ble_eq_true rfl) ?_
  show px_Y mm_X_ever 0 [(0, .ref 0), (1, .int a1)] [] hp _ _
  refine py_its (pc := 0) (pc1 := 1) (lv1 := [(0, .ref 0), (1, .int a1)]) (st1 := [.ref 0]) 1 (fun _ _ _ _ => rfl) ?_
  refine py_g1 1 (pc := 1) (len := 3) (cs := [0]) rfl rfl rfl List.mem_cons_self hS ?_
  refine py_its (pc := 4) (pc1 := 5) (lv1 := [(0, .ref 0), (1, .int a1)]) (st1 := [.int a1, .ref 1]) 1 (fun _ _ _ _ => rfl) ?_
  obtain ⟨q1, hq2, h⟩ := bd_e h
  have hC3 := (fx_Town_hasPerson hS hq2).1
  refine py_vi (pc := 5) (mi := mi_Town_hasPerson) (cs := [1]) (N := mm_Town_hasPerson) rfl rfl rfl rfl List.mem_cons_self hS rfl (Nat.le_of_ble_eq_true rfl) (Nat.le_of_ble_eq_true rfl) rfl rfl hC3 ?_
  show px_Y mm_X_ever 8 [(0, .ref 0), (1, .int a1)] [.int q1] hp _ _
  cases hb4 : px_cmp .eq q1 0 with
  | true =>
    have h := cd_t hb4 h
    refine py_if (pc := 8) (len := 3) true rfl hb4 ?_
    refine py_its (pc := 18) (pc1 := 19) (lv1 := [(0, .ref 0), (1, .int a1)]) (st1 := [.int (Int32.ofInt (-1))]) 1 (fun _ _ _ _ => rfl) ?_
    have h := Option.some.inj h
    subst h
    exact py_ir (pc := 19) (len := 1) (ty := .int) rfl rfl rfl hS
  | false =>
    have h := cd_f hb4 h
    refine py_if (pc := 8) (len := 3) false rfl hb4 ?_
    refine py_its (pc := 11) (pc1 := 12) (lv1 := [(0, .ref 0), (1, .int a1)]) (st1 := [.ref 0]) 1 (fun _ _ _ _ => rfl) ?_
    obtain ⟨q5, hq6, h⟩ := bd_e h
    have hC7 := (fx_X_isDrawingLeft hS hq6).1
    refine py_vi (pc := 12) (mi := mi_X_isDrawingLeft) (cs := [0]) (N := mm_X_isDrawingLeft) rfl rfl rfl rfl List.mem_cons_self hS rfl (Nat.le_of_ble_eq_true rfl) (Nat.le_of_ble_eq_true rfl) rfl rfl hC7 ?_
    show px_Y mm_X_ever 15 [(0, .ref 0), (1, .int a1)] [.int q5] hp _ _
    cases hb8 : px_cmp .ne q5 0 with
    | true =>
      have h := cd_t hb8 h
      refine py_if (pc := 15) (len := 3) true rfl hb8 ?_
      refine py_its (pc := 20) (pc1 := 22) (lv1 := [(0, .ref 0), (1, .int a1)]) (st1 := [.ref 0, .ref 0]) 2 (fun _ _ _ _ => rfl) ?_
      refine py_g1 14 (pc := 22) (len := 3) (cs := [0]) rfl rfl rfl List.mem_cons_self hS ?_
      refine py_its (pc := 25) (pc1 := 27) (lv1 := [(0, .ref 0), (1, .int a1)]) (st1 := [.ref 0, .int (Int32.ofInt 0), .ref 14, .ref 0]) 2 (fun _ _ _ _ => rfl) ?_
      refine py_g1 1 (pc := 27) (len := 3) (cs := [0]) rfl rfl rfl List.mem_cons_self hS ?_
      refine py_gI (pc := 30) (len := 3) (cs := [1]) rfl rfl rfl List.mem_cons_self hS ?_
      refine py_its (pc := 33) (pc1 := 35) (lv1 := [(0, .ref 0), (1, .int a1)]) (st1 := [.int ((gI hp 1 8) - (Int32.ofInt 1)), .int (Int32.ofInt 0), .ref 14, .ref 0]) 2 (fun _ _ _ _ => rfl) ?_
      obtain ⟨q9, hq10, h⟩ := bd_e h
      obtain ⟨hC11, hS12⟩ := fx_X_walkBy (List.mem_of_elem_eq_true rfl) hS hq10
      refine py_vi (pc := 35) (mi := mi_X_walkBy) (cs := [0]) (N := mm_X_walkBy) rfl rfl rfl rfl List.mem_cons_self hS rfl (Nat.le_of_ble_eq_true rfl) (Nat.le_of_ble_eq_true rfl) rfl rfl hC11 ?_
      show px_Y mm_X_ever 38 [(0, .ref 0), (1, .int a1)] [.int q9.1] q9.2 _ _
      cases hb13 : px_cmp .ne q9.1 0 with
      | true =>
        have h := cd_t hb13 h
        refine py_if (pc := 38) (len := 3) true rfl hb13 ?_
        refine py_its (pc := 44) (pc1 := 45) (lv1 := [(0, .ref 0), (1, .int a1)]) (st1 := [.ref 0]) 1 (fun _ _ _ _ => rfl) ?_
        refine py_g1 48 (pc := 45) (len := 3) (cs := [0]) rfl rfl rfl List.mem_cons_self hS12 ?_
        refine py_its (pc := 48) (pc1 := 49) (lv1 := [(0, .ref 0), (1, .int a1)]) (st1 := [.ref 0, .ref 48]) 1 (fun _ _ _ _ => rfl) ?_
        refine py_g1 28 (pc := 49) (len := 3) (cs := [0]) rfl rfl rfl List.mem_cons_self hS12 ?_
        refine py_its (pc := 52) (pc1 := 54) (lv1 := [(0, .ref 0), (1, .int a1)]) (st1 := [.ref 0, .int a1, .ref 28, .ref 48]) 2 (fun _ _ _ _ => rfl) ?_
        refine py_g1 19 (pc := 54) (len := 3) (cs := [0]) rfl rfl rfl List.mem_cons_self hS12 ?_
        refine py_gI (pc := 57) (len := 3) (cs := [19]) rfl rfl rfl List.mem_cons_self hS12 ?_
        obtain ⟨q14, hq15, h⟩ := bd_e h
        have hC16 := (fx_Walk_chanceSince hS12 hq15).1
        refine py_vi (pc := 60) (mi := mi_Walk_chanceSince) (cs := [28]) (N := mm_Walk_chanceSince) rfl rfl rfl rfl List.mem_cons_self hS12 rfl (Nat.le_of_ble_eq_true rfl) (Nat.le_of_ble_eq_true rfl) rfl rfl hC16 ?_
        show px_Y mm_X_ever 63 [(0, .ref 0), (1, .int a1)] [.long q14, .ref 48] q9.2 _ _
        obtain ⟨q17, hq18, h⟩ := bd_e h
        obtain ⟨hC19, hS20⟩ := fx_Row_tellOne hS12 hq18
        refine py_vi (pc := 63) (mi := mi_Row_tellOne) (cs := [48]) (N := mm_Row_tellOne) rfl rfl rfl rfl List.mem_cons_self hS12 rfl (Nat.le_of_ble_eq_true rfl) (Nat.le_of_ble_eq_true rfl) rfl rfl hC19 ?_
        show px_Y mm_X_ever 66 [(0, .ref 0), (1, .int a1)] [] q17 _ _
        refine py_its (pc := 66) (pc1 := 67) (lv1 := [(0, .ref 0), (1, .int a1)]) (st1 := [.int (Int32.ofInt 0)]) 1 (fun _ _ _ _ => rfl) ?_
        have h := Option.some.inj h
        subst h
        exact py_ir (pc := 67) (len := 1) (ty := .int) rfl rfl rfl hS20
      | false =>
        have h := cd_f hb13 h
        refine py_if (pc := 38) (len := 3) false rfl hb13 ?_
        refine py_its (pc := 41) (pc1 := 43) (lv1 := [(0, .ref 0), (1, .int a1)]) (st1 := [.int (Int8.ofInt (-3)).toInt32]) 1 (fun _ _ _ _ => rfl) ?_
        have h := Option.some.inj h
        subst h
        exact py_ir (pc := 43) (len := 1) (ty := .int) rfl rfl rfl hS12
    | false =>
      have h := cd_f hb8 h
      refine py_if (pc := 15) (len := 3) false rfl hb8 ?_
      refine py_its (pc := 18) (pc1 := 19) (lv1 := [(0, .ref 0), (1, .int a1)]) (st1 := [.int (Int32.ofInt (-1))]) 1 (fun _ _ _ _ => rfl) ?_
      have h := Option.some.inj h
      subst h
      exact py_ir (pc := 19) (len := 1) (ty := .int) rfl rfl rfl hS
/-! Walk_chanceOfFilled -/
noncomputable def fb_Walk_chanceOfFilled_L5 (v1 : Int32) (hp : px_H) (rc : Int64 → Int32 → Option (Int64)) (v2 : Int64) (v4 : Int32) : Option (Int64) :=
  bif px_cmp .ge v4 (gI hp (gR hp 28 2) 3) then
    some v2
  else
    (fn_Table_sittingAt (gR hp 28 2) v4 hp).bind fun q4 =>
    bif px_cmp .ne (nm_bc q4) v1 then
      rc v2 (v4 + Int32.ofInt 1)
    else
      bif px_inR v4 3000 then
      rc (v2 + (aL hp (gR hp (gR hp 28 2) 2) v4.toNatClampNeg)) (v4 + Int32.ofInt 1)
      else none
noncomputable def fn_Walk_chanceOfFilled_L5 (v1 : Int32) (hp : px_H) : Nat → Int64 → Int32 → Option (Int64)
  | 0 => fun _ _ => none
  | n + 1 => fb_Walk_chanceOfFilled_L5 v1 hp (fn_Walk_chanceOfFilled_L5 v1 hp n)
theorem fl_Walk_chanceOfFilled_L5 {v1 : Int32} {hp : px_H}  : ∀ (n : Nat) (v2 : Int64) (v4 : Int32) (lv : List (Nat × Value)) (res : Int64), oS hp → lk lv [(0, .ref 28), (1, .int v1), (2, .long v2), (4, .int v4)] → fn_Walk_chanceOfFilled_L5 v1 hp n v2 v4 = some res → px_Y mm_Walk_chanceOfFilled 5 lv [] hp (some (.long res)) hp := by
  intro n
  induction n with
  | zero =>
    intro v2 v4 lv res hS hk h
    cases h
  | succ n ih =>
    intro v2 v4 lv res hS hk h
    have h : fb_Walk_chanceOfFilled_L5 v1 hp (fn_Walk_chanceOfFilled_L5 v1 hp n) v2 v4 = some res := h
    unfold fb_Walk_chanceOfFilled_L5 at h
    refine py_il (pc := 5) (len := 2) (j := 4) rfl hk rfl ?_
    refine py_aln (pc := 7) (len := 1) (j := 0) rfl hk rfl ?_
    refine py_gR [29, 35, 41] (pc := 8) (len := 3) (cs := [28]) rfl rfl rfl List.mem_cons_self hS (fun hm1 => ?_)
    refine py_gI (pc := 11) (len := 3) (cs := [29, 35, 41]) rfl rfl rfl hm1 hS ?_
    cases hb2 : px_cmp .ge v4 (gI hp (gR hp 28 2) 3) with
    | true =>
      have h := cd_t hb2 h
      refine py_ic (pc := 14) (len := 3) true rfl hb2 ?_
      refine py_lln (pc := 52) (len := 1) (j := 2) rfl hk rfl ?_
      have h := Option.some.inj h
      subst h
      exact py_lr (pc := 53) (len := 1) rfl rfl hS
    | false =>
      have h := cd_f hb2 h
      refine py_ic (pc := 14) (len := 3) false rfl hb2 ?_
      refine py_aln (pc := 17) (len := 1) (j := 0) rfl hk rfl ?_
      refine py_gR [29, 35, 41] (pc := 18) (len := 3) (cs := [28]) rfl rfl rfl List.mem_cons_self hS (fun hm3 => ?_)
      refine py_il (pc := 21) (len := 2) (j := 4) rfl hk rfl ?_
      obtain ⟨q4, hq5, h⟩ := bd_e h
      have hC6 := (fx_Table_sittingAt hm3 hS hq5).1
      refine py_vi (pc := 23) (mi := mi_Table_sittingAt) (cs := [29, 35, 41]) (N := mm_Table_sittingAt) rfl rfl rfl rfl hm3 hS rfl (Nat.le_of_ble_eq_true rfl) (Nat.le_of_ble_eq_true rfl) rfl rfl hC6 ?_
      show px_Y mm_Walk_chanceOfFilled 26 lv [.int q4] hp _ _
      refine py_st (pc := 26) (mi := mi_I_bitCount) (N := mm_I_bitCount) rfl rfl rfl (Nat.le_of_ble_eq_true rfl) (Nat.le_of_ble_eq_true rfl) rfl rfl (nm_bc_C q4 hp) ?_
      show px_Y mm_Walk_chanceOfFilled 29 lv [.int (nm_bc q4)] hp _ _
      refine py_iln (pc := 29) (len := 1) (j := 1) rfl hk rfl ?_
      cases hb7 : px_cmp .ne (nm_bc q4) v1 with
      | true =>
        have h := cd_t hb7 h
        refine py_ic (pc := 30) (len := 3) true rfl hb7 ?_
        refine py_inc (pc := 46) (len := 3) (j := 4) (n := 1) rfl rfl hk rfl (fun lv8 hk9 => ?_)
        have hk9 : lk lv8 [(4, .int (v4 + Int32.ofInt 1)), (0, .ref 28), (1, .int v1), (2, .long v2)] := hk9
        refine py_its (pc := 49) (pc1 := 5) (lv1 := lv8) (st1 := []) 1 (fun _ _ _ _ => rfl) ?_
        exact ih v2 (v4 + Int32.ofInt 1) lv8 _ hS ⟨lk_find hk9 rfl, lk_find hk9 rfl, lk_find hk9 rfl, lk_find hk9 rfl, trivial⟩ h
      | false =>
        have h := cd_f hb7 h
        refine py_ic (pc := 30) (len := 3) false rfl hb7 ?_
        refine py_lln (pc := 33) (len := 1) (j := 2) rfl hk rfl ?_
        refine py_aln (pc := 34) (len := 1) (j := 0) rfl hk rfl ?_
        refine py_gR [29, 35, 41] (pc := 35) (len := 3) (cs := [28]) rfl rfl rfl List.mem_cons_self hS (fun hm10 => ?_)
        refine py_gR [32, 38, 44] (pc := 38) (len := 3) (cs := [29, 35, 41]) rfl rfl rfl hm10 hS (fun hm11 => ?_)
        refine py_il (pc := 41) (len := 2) (j := 4) rfl hk rfl ?_
        obtain ⟨hi12, h⟩ := cd_n h
        refine py_al (pc := 43) (len := 1) (cs := [32, 38, 44]) (t := 8) (n := 3000) rfl rfl rfl hi12 hm11 hS ?_
        refine py_its (pc := 44) (pc1 := 45) (lv1 := lv) (st1 := [.long (v2 + (aL hp (gR hp (gR hp 28 2) 2) v4.toNatClampNeg))]) 1 (fun _ _ _ _ => rfl) ?_
        refine py_sln (pc := 45) (len := 1) (j := 2) rfl rfl hk (fun lv13 hk14 => ?_)
        have hk14 : lk lv13 [(2, .long (v2 + (aL hp (gR hp (gR hp 28 2) 2) v4.toNatClampNeg))), (0, .ref 28), (1, .int v1), (4, .int v4)] := hk14
        refine py_inc (pc := 46) (len := 3) (j := 4) (n := 1) rfl rfl hk14 rfl (fun lv15 hk16 => ?_)
        have hk16 : lk lv15 [(4, .int (v4 + Int32.ofInt 1)), (2, .long (v2 + (aL hp (gR hp (gR hp 28 2) 2) v4.toNatClampNeg))), (0, .ref 28), (1, .int v1)] := hk16
        refine py_its (pc := 49) (pc1 := 5) (lv1 := lv15) (st1 := []) 1 (fun _ _ _ _ => rfl) ?_
        exact ih (v2 + (aL hp (gR hp (gR hp 28 2) 2) v4.toNatClampNeg)) (v4 + Int32.ofInt 1) lv15 _ hS ⟨lk_find hk16 rfl, lk_find hk16 rfl, lk_find hk16 rfl, lk_find hk16 rfl, trivial⟩ h
noncomputable def fn_Walk_chanceOfFilled (a1 : Int32) (hp : px_H) : Option (Int64) :=
  fn_Walk_chanceOfFilled_L5 a1 hp fu (Int64.ofNat 0) (Int32.ofInt 0)
theorem fx_Walk_chanceOfFilled {a1 : Int32} {hp : px_H} {res : Int64} (hS : oS hp) (h : fn_Walk_chanceOfFilled a1 hp = some res) : px_C nm_T nm_P mi_Walk_chanceOfFilled [.ref 28, .int a1] hp (some (.long res)) hp ∧ oS hp := by
  unfold fn_Walk_chanceOfFilled at h
  refine py_C (M := mm_Walk_chanceOfFilled) rfl (Nat.le_of_ble_eq_true rfl) ?_
  show px_Y mm_Walk_chanceOfFilled 0 [(0, .ref 28), (1, .int a1)] [] hp _ _
  refine py_its (pc := 0) (pc1 := 5) (lv1 := [(4, .int (Int32.ofInt 0)), (2, .long (Int64.ofNat 0)), (0, .ref 28), (1, .int a1)]) (st1 := []) 4 (fun _ _ _ _ => rfl) ?_
  exact fl_Walk_chanceOfFilled_L5 fu (Int64.ofNat 0) (Int32.ofInt 0) [(4, .int (Int32.ofInt 0)), (2, .long (Int64.ofNat 0)), (0, .ref 28), (1, .int a1)] _ hS ⟨rfl, rfl, rfl, rfl, trivial⟩ h
/-! Walk_chanceOfLess -/
noncomputable def fb_Walk_chanceOfLess_L5 (v1 : Int32) (hp : px_H) (rc : Int64 → Int32 → Option (Int64)) (v2 : Int64) (v4 : Int32) : Option (Int64) :=
  bif px_cmp .ge v4 v1 then
    some v2
  else
    (fn_Walk_chanceOfFilled v4 hp).bind fun q2 =>
    rc (v2 + q2) (v4 + Int32.ofInt 1)
noncomputable def fn_Walk_chanceOfLess_L5 (v1 : Int32) (hp : px_H) : Nat → Int64 → Int32 → Option (Int64)
  | 0 => fun _ _ => none
  | n + 1 => fb_Walk_chanceOfLess_L5 v1 hp (fn_Walk_chanceOfLess_L5 v1 hp n)
theorem fl_Walk_chanceOfLess_L5 {v1 : Int32} {hp : px_H}  : ∀ (n : Nat) (v2 : Int64) (v4 : Int32) (lv : List (Nat × Value)) (res : Int64), oS hp → lk lv [(0, .ref 28), (1, .int v1), (2, .long v2), (4, .int v4)] → fn_Walk_chanceOfLess_L5 v1 hp n v2 v4 = some res → px_Y mm_Walk_chanceOfLess 5 lv [] hp (some (.long res)) hp := by
  intro n
  induction n with
  | zero =>
    intro v2 v4 lv res hS hk h
    cases h
  | succ n ih =>
    intro v2 v4 lv res hS hk h
    have h : fb_Walk_chanceOfLess_L5 v1 hp (fn_Walk_chanceOfLess_L5 v1 hp n) v2 v4 = some res := h
    unfold fb_Walk_chanceOfLess_L5 at h
    refine py_il (pc := 5) (len := 2) (j := 4) rfl hk rfl ?_
    refine py_iln (pc := 7) (len := 1) (j := 1) rfl hk rfl ?_
    cases hb1 : px_cmp .ge v4 v1 with
    | true =>
      have h := cd_t hb1 h
      refine py_ic (pc := 8) (len := 3) true rfl hb1 ?_
      refine py_lln (pc := 26) (len := 1) (j := 2) rfl hk rfl ?_
      have h := Option.some.inj h
      subst h
      exact py_lr (pc := 27) (len := 1) rfl rfl hS
    | false =>
      have h := cd_f hb1 h
      refine py_ic (pc := 8) (len := 3) false rfl hb1 ?_
      refine py_lln (pc := 11) (len := 1) (j := 2) rfl hk rfl ?_
      refine py_aln (pc := 12) (len := 1) (j := 0) rfl hk rfl ?_
      refine py_il (pc := 13) (len := 2) (j := 4) rfl hk rfl ?_
      obtain ⟨q2, hq3, h⟩ := bd_e h
      have hC4 := (fx_Walk_chanceOfFilled hS hq3).1
      refine py_vi (pc := 15) (mi := mi_Walk_chanceOfFilled) (cs := [28]) (N := mm_Walk_chanceOfFilled) rfl rfl rfl rfl List.mem_cons_self hS rfl (Nat.le_of_ble_eq_true rfl) (Nat.le_of_ble_eq_true rfl) rfl rfl hC4 ?_
      show px_Y mm_Walk_chanceOfLess 18 lv [.long q2, .long v2] hp _ _
      refine py_its (pc := 18) (pc1 := 19) (lv1 := lv) (st1 := [.long (v2 + q2)]) 1 (fun _ _ _ _ => rfl) ?_
      refine py_sln (pc := 19) (len := 1) (j := 2) rfl rfl hk (fun lv5 hk6 => ?_)
      have hk6 : lk lv5 [(2, .long (v2 + q2)), (0, .ref 28), (1, .int v1), (4, .int v4)] := hk6
      refine py_inc (pc := 20) (len := 3) (j := 4) (n := 1) rfl rfl hk6 rfl (fun lv7 hk8 => ?_)
      have hk8 : lk lv7 [(4, .int (v4 + Int32.ofInt 1)), (2, .long (v2 + q2)), (0, .ref 28), (1, .int v1)] := hk8
      refine py_its (pc := 23) (pc1 := 5) (lv1 := lv7) (st1 := []) 1 (fun _ _ _ _ => rfl) ?_
      exact ih (v2 + q2) (v4 + Int32.ofInt 1) lv7 _ hS ⟨lk_find hk8 rfl, lk_find hk8 rfl, lk_find hk8 rfl, lk_find hk8 rfl, trivial⟩ h
noncomputable def fn_Walk_chanceOfLess (a1 : Int32) (hp : px_H) : Option (Int64) :=
  fn_Walk_chanceOfLess_L5 a1 hp fu (Int64.ofNat 0) (Int32.ofInt 0)
theorem fx_Walk_chanceOfLess {a1 : Int32} {hp : px_H} {res : Int64} (hS : oS hp) (h : fn_Walk_chanceOfLess a1 hp = some res) : px_C nm_T nm_P mi_Walk_chanceOfLess [.ref 28, .int a1] hp (some (.long res)) hp ∧ oS hp := by
  unfold fn_Walk_chanceOfLess at h
  refine py_C (M := mm_Walk_chanceOfLess) rfl (Nat.le_of_ble_eq_true rfl) ?_
  show px_Y mm_Walk_chanceOfLess 0 [(0, .ref 28), (1, .int a1)] [] hp _ _
  refine py_its (pc := 0) (pc1 := 5) (lv1 := [(4, .int (Int32.ofInt 0)), (2, .long (Int64.ofNat 0)), (0, .ref 28), (1, .int a1)]) (st1 := []) 4 (fun _ _ _ _ => rfl) ?_
  exact fl_Walk_chanceOfLess_L5 fu (Int64.ofNat 0) (Int32.ofInt 0) [(4, .int (Int32.ofInt 0)), (2, .long (Int64.ofNat 0)), (0, .ref 28), (1, .int a1)] _ hS ⟨rfl, rfl, rfl, rfl, trivial⟩ h
/-! X_empty -/
noncomputable def fb_X_empty_L53 (v2 : Int32) (rc : Int32 → px_H → Option (Int32 × px_H)) (v3 : Int32) (hp : px_H) : Option (Int32 × px_H) :=
  bif px_cmp .gt v3 v2 then
    some ((Int32.ofInt 0), hp)
  else
    (fn_Walk_chanceOfFilled v3 hp).bind fun q19 =>
    (fn_Row_tell q19 hp).bind fun q22 =>
    rc (v3 + Int32.ofInt 1) q22
noncomputable def fn_X_empty_L53 (v2 : Int32) : Nat → Int32 → px_H → Option (Int32 × px_H)
  | 0 => fun _ _ => none
  | n + 1 => fb_X_empty_L53 v2 (fn_X_empty_L53 v2 n)
theorem fl_X_empty_L53 {v2 : Int32}  : ∀ (n : Nat) (v3 : Int32) (hp : px_H) (lv : List (Nat × Value)) (res : Int32 × px_H), oS hp → lk lv [(0, .ref 0), (2, .int v2), (3, .int v3)] → fn_X_empty_L53 v2 n v3 hp = some res → px_Y mm_X_empty 53 lv [] hp (some (.int res.1)) res.2 := by
  intro n
  induction n with
  | zero =>
    intro v3 hp lv res hS hk h
    cases h
  | succ n ih =>
    intro v3 hp lv res hS hk h
    have h : fb_X_empty_L53 v2 (fn_X_empty_L53 v2 n) v3 hp = some res := h
    unfold fb_X_empty_L53 at h
    refine py_iln (pc := 53) (len := 1) (j := 3) rfl hk rfl ?_
    refine py_iln (pc := 54) (len := 1) (j := 2) rfl hk rfl ?_
    cases hb18 : px_cmp .gt v3 v2 with
    | true =>
      have h := cd_t hb18 h
      refine py_ic (pc := 55) (len := 3) true rfl hb18 ?_
      refine py_its (pc := 79) (pc1 := 80) (lv1 := lv) (st1 := [.int (Int32.ofInt 0)]) 1 (fun _ _ _ _ => rfl) ?_
      have h := Option.some.inj h
      subst h
      exact py_ir (pc := 80) (len := 1) (ty := .int) rfl rfl rfl hS
    | false =>
      have h := cd_f hb18 h
      refine py_ic (pc := 55) (len := 3) false rfl hb18 ?_
      refine py_aln (pc := 58) (len := 1) (j := 0) rfl hk rfl ?_
      refine py_g1 48 (pc := 59) (len := 3) (cs := [0]) rfl rfl rfl List.mem_cons_self hS ?_
      refine py_aln (pc := 62) (len := 1) (j := 0) rfl hk rfl ?_
      refine py_g1 28 (pc := 63) (len := 3) (cs := [0]) rfl rfl rfl List.mem_cons_self hS ?_
      refine py_iln (pc := 66) (len := 1) (j := 3) rfl hk rfl ?_
      obtain ⟨q19, hq20, h⟩ := bd_e h
      have hC21 := (fx_Walk_chanceOfFilled hS hq20).1
      refine py_vi (pc := 67) (mi := mi_Walk_chanceOfFilled) (cs := [28]) (N := mm_Walk_chanceOfFilled) rfl rfl rfl rfl List.mem_cons_self hS rfl (Nat.le_of_ble_eq_true rfl) (Nat.le_of_ble_eq_true rfl) rfl rfl hC21 ?_
      show px_Y mm_X_empty 70 lv [.long q19, .ref 48] hp _ _
      obtain ⟨q22, hq23, h⟩ := bd_e h
      obtain ⟨hC24, hS25⟩ := fx_Row_tell hS hq23
      refine py_vi (pc := 70) (mi := mi_Row_tell) (cs := [48]) (N := mm_Row_tell) rfl rfl rfl rfl List.mem_cons_self hS rfl (Nat.le_of_ble_eq_true rfl) (Nat.le_of_ble_eq_true rfl) rfl rfl hC24 ?_
      show px_Y mm_X_empty 73 lv [] q22 _ _
      refine py_inc (pc := 73) (len := 3) (j := 3) (n := 1) rfl rfl hk rfl (fun lv26 hk27 => ?_)
      have hk27 : lk lv26 [(3, .int (v3 + Int32.ofInt 1)), (0, .ref 0), (2, .int v2)] := hk27
      refine py_its (pc := 76) (pc1 := 53) (lv1 := lv26) (st1 := []) 1 (fun _ _ _ _ => rfl) ?_
      exact ih (v3 + Int32.ofInt 1) q22 lv26 _ hS25 ⟨lk_find hk27 rfl, lk_find hk27 rfl, lk_find hk27 rfl, trivial⟩ h
noncomputable def fn_X_empty (a1 : Int32) (hp : px_H) : Option (Int32 × px_H) :=
  (fn_X_isAhead a1 hp).bind fun q1 =>
  bif px_cmp .ne q1 0 then
    (fn_X_walkBy 14 (Int32.ofInt 0) a1 hp).bind fun q5 =>
    bif px_cmp .ne q5.1 0 then
      bif px_inR a1 6 then
      (fn_Walk_chanceOfLess (aI q5.2 11 a1.toNatClampNeg) q5.2).bind fun q11 =>
      (fn_Row_tellOne q11 q5.2).bind fun q14 =>
      fn_X_empty_L53 (aI q5.2 11 a1.toNatClampNeg) fu (Int32.ofInt 0) q14
      else none
    else
      some ((Int8.ofInt (-3)).toInt32, q5.2)
  else
    some ((Int32.ofInt (-1)), hp)
theorem fx_X_empty {a1 : Int32} {hp : px_H} {res : Int32 × px_H} (hS : oS hp) (h : fn_X_empty a1 hp = some res) : px_C nm_T nm_P mi_X_empty [.ref 0, .int a1] hp (some (.int res.1)) res.2 ∧ oS res.2 := by
  unfold fn_X_empty at h
  refine py_C (M := mm_X_empty) rfl (Nat.le_of_ble_eq_true rfl) ?_
  show px_Y mm_X_empty 0 [(0, .ref 0), (1, .int a1)] [] hp _ _
  refine py_its (pc := 0) (pc1 := 2) (lv1 := [(0, .ref 0), (1, .int a1)]) (st1 := [.int a1, .ref 0]) 2 (fun _ _ _ _ => rfl) ?_
  obtain ⟨q1, hq2, h⟩ := bd_e h
  have hC3 := (fx_X_isAhead hS hq2).1
  refine py_vi (pc := 2) (mi := mi_X_isAhead) (cs := [0]) (N := mm_X_isAhead) rfl rfl rfl rfl List.mem_cons_self hS rfl (Nat.le_of_ble_eq_true rfl) (Nat.le_of_ble_eq_true rfl) rfl rfl hC3 ?_
  show px_Y mm_X_empty 5 [(0, .ref 0), (1, .int a1)] [.int q1] hp _ _
  cases hb4 : px_cmp .ne q1 0 with
  | true =>
    have h := cd_t hb4 h
    refine py_if (pc := 5) (len := 3) true rfl hb4 ?_
    refine py_its (pc := 10) (pc1 := 12) (lv1 := [(0, .ref 0), (1, .int a1)]) (st1 := [.ref 0, .ref 0]) 2 (fun _ _ _ _ => rfl) ?_
    refine py_g1 14 (pc := 12) (len := 3) (cs := [0]) rfl rfl rfl List.mem_cons_self hS ?_
    refine py_its (pc := 15) (pc1 := 17) (lv1 := [(0, .ref 0), (1, .int a1)]) (st1 := [.int a1, .int (Int32.ofInt 0), .ref 14, .ref 0]) 2 (fun _ _ _ _ => rfl) ?_
    obtain ⟨q5, hq6, h⟩ := bd_e h
    obtain ⟨hC7, hS8⟩ := fx_X_walkBy (List.mem_of_elem_eq_true rfl) hS hq6
    refine py_vi (pc := 17) (mi := mi_X_walkBy) (cs := [0]) (N := mm_X_walkBy) rfl rfl rfl rfl List.mem_cons_self hS rfl (Nat.le_of_ble_eq_true rfl) (Nat.le_of_ble_eq_true rfl) rfl rfl hC7 ?_
    show px_Y mm_X_empty 20 [(0, .ref 0), (1, .int a1)] [.int q5.1] q5.2 _ _
    cases hb9 : px_cmp .ne q5.1 0 with
    | true =>
      have h := cd_t hb9 h
      refine py_if (pc := 20) (len := 3) true rfl hb9 ?_
      refine py_its (pc := 26) (pc1 := 27) (lv1 := [(0, .ref 0), (1, .int a1)]) (st1 := [.ref 0]) 1 (fun _ _ _ _ => rfl) ?_
      refine py_g1 1 (pc := 27) (len := 3) (cs := [0]) rfl rfl rfl List.mem_cons_self hS8 ?_
      refine py_g1 11 (pc := 30) (len := 3) (cs := [1]) rfl rfl rfl List.mem_cons_self hS8 ?_
      refine py_its (pc := 33) (pc1 := 34) (lv1 := [(0, .ref 0), (1, .int a1)]) (st1 := [.int a1, .ref 11]) 1 (fun _ _ _ _ => rfl) ?_
      obtain ⟨hi10, h⟩ := cd_n h
      refine py_ai (pc := 34) (len := 1) (cs := [11]) (t := 21) (n := 6) rfl rfl rfl hi10 List.mem_cons_self hS8 ?_
      refine py_its (pc := 35) (pc1 := 37) (lv1 := [(2, .int (aI q5.2 11 a1.toNatClampNeg)), (0, .ref 0), (1, .int a1)]) (st1 := [.ref 0]) 2 (fun _ _ _ _ => rfl) ?_
      refine py_g1 48 (pc := 37) (len := 3) (cs := [0]) rfl rfl rfl List.mem_cons_self hS8 ?_
      refine py_its (pc := 40) (pc1 := 41) (lv1 := [(2, .int (aI q5.2 11 a1.toNatClampNeg)), (0, .ref 0), (1, .int a1)]) (st1 := [.ref 0, .ref 48]) 1 (fun _ _ _ _ => rfl) ?_
      refine py_g1 28 (pc := 41) (len := 3) (cs := [0]) rfl rfl rfl List.mem_cons_self hS8 ?_
      refine py_its (pc := 44) (pc1 := 45) (lv1 := [(2, .int (aI q5.2 11 a1.toNatClampNeg)), (0, .ref 0), (1, .int a1)]) (st1 := [.int (aI q5.2 11 a1.toNatClampNeg), .ref 28, .ref 48]) 1 (fun _ _ _ _ => rfl) ?_
      obtain ⟨q11, hq12, h⟩ := bd_e h
      have hC13 := (fx_Walk_chanceOfLess hS8 hq12).1
      refine py_vi (pc := 45) (mi := mi_Walk_chanceOfLess) (cs := [28]) (N := mm_Walk_chanceOfLess) rfl rfl rfl rfl List.mem_cons_self hS8 rfl (Nat.le_of_ble_eq_true rfl) (Nat.le_of_ble_eq_true rfl) rfl rfl hC13 ?_
      show px_Y mm_X_empty 48 [(2, .int (aI q5.2 11 a1.toNatClampNeg)), (0, .ref 0), (1, .int a1)] [.long q11, .ref 48] q5.2 _ _
      obtain ⟨q14, hq15, h⟩ := bd_e h
      obtain ⟨hC16, hS17⟩ := fx_Row_tellOne hS8 hq15
      refine py_vi (pc := 48) (mi := mi_Row_tellOne) (cs := [48]) (N := mm_Row_tellOne) rfl rfl rfl rfl List.mem_cons_self hS8 rfl (Nat.le_of_ble_eq_true rfl) (Nat.le_of_ble_eq_true rfl) rfl rfl hC16 ?_
      show px_Y mm_X_empty 51 [(2, .int (aI q5.2 11 a1.toNatClampNeg)), (0, .ref 0), (1, .int a1)] [] q14 _ _
      refine py_its (pc := 51) (pc1 := 53) (lv1 := [(3, .int (Int32.ofInt 0)), (2, .int (aI q5.2 11 a1.toNatClampNeg)), (0, .ref 0), (1, .int a1)]) (st1 := []) 2 (fun _ _ _ _ => rfl) ?_
      exact fl_X_empty_L53 fu (Int32.ofInt 0) q14 [(3, .int (Int32.ofInt 0)), (2, .int (aI q5.2 11 a1.toNatClampNeg)), (0, .ref 0), (1, .int a1)] _ hS17 ⟨rfl, rfl, rfl, trivial⟩ h
    | false =>
      have h := cd_f hb9 h
      refine py_if (pc := 20) (len := 3) false rfl hb9 ?_
      refine py_its (pc := 23) (pc1 := 25) (lv1 := [(0, .ref 0), (1, .int a1)]) (st1 := [.int (Int8.ofInt (-3)).toInt32]) 1 (fun _ _ _ _ => rfl) ?_
      have h := Option.some.inj h
      subst h
      exact py_ir (pc := 25) (len := 1) (ty := .int) rfl rfl rfl hS8
  | false =>
    have h := cd_f hb4 h
    refine py_if (pc := 5) (len := 3) false rfl hb4 ?_
    refine py_its (pc := 8) (pc1 := 9) (lv1 := [(0, .ref 0), (1, .int a1)]) (st1 := [.int (Int32.ofInt (-1))]) 1 (fun _ _ _ _ => rfl) ?_
    have h := Option.some.inj h
    subst h
    exact py_ir (pc := 9) (len := 1) (ty := .int) rfl rfl rfl hS
/-! X_vain -/
noncomputable def fn_X_vain (a1 : Int32) (hp : px_H) : Option (Int32 × px_H) :=
  (fn_X_isAhead a1 hp).bind fun q1 =>
  bif px_cmp .ne q1 0 then
    (fn_X_walkBy 14 (Int32.ofInt 0) a1 hp).bind fun q5 =>
    bif px_cmp .ne q5.1 0 then
      (fn_Row_tellOne (gL q5.2 28 4) q5.2).bind fun q10 =>
      (fn_Row_tell (gL q10 28 5) q10).bind fun q14 =>
      some ((Int32.ofInt 0), q14)
    else
      some ((Int8.ofInt (-3)).toInt32, q5.2)
  else
    some ((Int32.ofInt (-1)), hp)
theorem fx_X_vain {a1 : Int32} {hp : px_H} {res : Int32 × px_H} (hS : oS hp) (h : fn_X_vain a1 hp = some res) : px_C nm_T nm_P mi_X_vain [.ref 0, .int a1] hp (some (.int res.1)) res.2 ∧ oS res.2 := by
  unfold fn_X_vain at h
  refine py_C (M := mm_X_vain) rfl (Nat.le_of_ble_eq_true rfl) ?_
  show px_Y mm_X_vain 0 [(0, .ref 0), (1, .int a1)] [] hp _ _
  refine py_its (pc := 0) (pc1 := 2) (lv1 := [(0, .ref 0), (1, .int a1)]) (st1 := [.int a1, .ref 0]) 2 (fun _ _ _ _ => rfl) ?_
  obtain ⟨q1, hq2, h⟩ := bd_e h
  have hC3 := (fx_X_isAhead hS hq2).1
  refine py_vi (pc := 2) (mi := mi_X_isAhead) (cs := [0]) (N := mm_X_isAhead) rfl rfl rfl rfl List.mem_cons_self hS rfl (Nat.le_of_ble_eq_true rfl) (Nat.le_of_ble_eq_true rfl) rfl rfl hC3 ?_
  show px_Y mm_X_vain 5 [(0, .ref 0), (1, .int a1)] [.int q1] hp _ _
  cases hb4 : px_cmp .ne q1 0 with
  | true =>
    have h := cd_t hb4 h
    refine py_if (pc := 5) (len := 3) true rfl hb4 ?_
    refine py_its (pc := 10) (pc1 := 12) (lv1 := [(0, .ref 0), (1, .int a1)]) (st1 := [.ref 0, .ref 0]) 2 (fun _ _ _ _ => rfl) ?_
    refine py_g1 14 (pc := 12) (len := 3) (cs := [0]) rfl rfl rfl List.mem_cons_self hS ?_
    refine py_its (pc := 15) (pc1 := 17) (lv1 := [(0, .ref 0), (1, .int a1)]) (st1 := [.int a1, .int (Int32.ofInt 0), .ref 14, .ref 0]) 2 (fun _ _ _ _ => rfl) ?_
    obtain ⟨q5, hq6, h⟩ := bd_e h
    obtain ⟨hC7, hS8⟩ := fx_X_walkBy (List.mem_of_elem_eq_true rfl) hS hq6
    refine py_vi (pc := 17) (mi := mi_X_walkBy) (cs := [0]) (N := mm_X_walkBy) rfl rfl rfl rfl List.mem_cons_self hS rfl (Nat.le_of_ble_eq_true rfl) (Nat.le_of_ble_eq_true rfl) rfl rfl hC7 ?_
    show px_Y mm_X_vain 20 [(0, .ref 0), (1, .int a1)] [.int q5.1] q5.2 _ _
    cases hb9 : px_cmp .ne q5.1 0 with
    | true =>
      have h := cd_t hb9 h
      refine py_if (pc := 20) (len := 3) true rfl hb9 ?_
      refine py_its (pc := 26) (pc1 := 27) (lv1 := [(0, .ref 0), (1, .int a1)]) (st1 := [.ref 0]) 1 (fun _ _ _ _ => rfl) ?_
      refine py_g1 48 (pc := 27) (len := 3) (cs := [0]) rfl rfl rfl List.mem_cons_self hS8 ?_
      refine py_its (pc := 30) (pc1 := 31) (lv1 := [(0, .ref 0), (1, .int a1)]) (st1 := [.ref 0, .ref 48]) 1 (fun _ _ _ _ => rfl) ?_
      refine py_g1 28 (pc := 31) (len := 3) (cs := [0]) rfl rfl rfl List.mem_cons_self hS8 ?_
      refine py_gL (pc := 34) (len := 3) (cs := [28]) rfl rfl rfl List.mem_cons_self hS8 ?_
      obtain ⟨q10, hq11, h⟩ := bd_e h
      obtain ⟨hC12, hS13⟩ := fx_Row_tellOne hS8 hq11
      refine py_vi (pc := 37) (mi := mi_Row_tellOne) (cs := [48]) (N := mm_Row_tellOne) rfl rfl rfl rfl List.mem_cons_self hS8 rfl (Nat.le_of_ble_eq_true rfl) (Nat.le_of_ble_eq_true rfl) rfl rfl hC12 ?_
      show px_Y mm_X_vain 40 [(0, .ref 0), (1, .int a1)] [] q10 _ _
      refine py_its (pc := 40) (pc1 := 41) (lv1 := [(0, .ref 0), (1, .int a1)]) (st1 := [.ref 0]) 1 (fun _ _ _ _ => rfl) ?_
      refine py_g1 48 (pc := 41) (len := 3) (cs := [0]) rfl rfl rfl List.mem_cons_self hS13 ?_
      refine py_its (pc := 44) (pc1 := 45) (lv1 := [(0, .ref 0), (1, .int a1)]) (st1 := [.ref 0, .ref 48]) 1 (fun _ _ _ _ => rfl) ?_
      refine py_g1 28 (pc := 45) (len := 3) (cs := [0]) rfl rfl rfl List.mem_cons_self hS13 ?_
      refine py_gL (pc := 48) (len := 3) (cs := [28]) rfl rfl rfl List.mem_cons_self hS13 ?_
      obtain ⟨q14, hq15, h⟩ := bd_e h
      obtain ⟨hC16, hS17⟩ := fx_Row_tell hS13 hq15
      refine py_vi (pc := 51) (mi := mi_Row_tell) (cs := [48]) (N := mm_Row_tell) rfl rfl rfl rfl List.mem_cons_self hS13 rfl (Nat.le_of_ble_eq_true rfl) (Nat.le_of_ble_eq_true rfl) rfl rfl hC16 ?_
      show px_Y mm_X_vain 54 [(0, .ref 0), (1, .int a1)] [] q14 _ _
      refine py_its (pc := 54) (pc1 := 55) (lv1 := [(0, .ref 0), (1, .int a1)]) (st1 := [.int (Int32.ofInt 0)]) 1 (fun _ _ _ _ => rfl) ?_
      have h := Option.some.inj h
      subst h
      exact py_ir (pc := 55) (len := 1) (ty := .int) rfl rfl rfl hS17
    | false =>
      have h := cd_f hb9 h
      refine py_if (pc := 20) (len := 3) false rfl hb9 ?_
      refine py_its (pc := 23) (pc1 := 25) (lv1 := [(0, .ref 0), (1, .int a1)]) (st1 := [.int (Int8.ofInt (-3)).toInt32]) 1 (fun _ _ _ _ => rfl) ?_
      have h := Option.some.inj h
      subst h
      exact py_ir (pc := 25) (len := 1) (ty := .int) rfl rfl rfl hS8
  | false =>
    have h := cd_f hb4 h
    refine py_if (pc := 5) (len := 3) false rfl hb4 ?_
    refine py_its (pc := 8) (pc1 := 9) (lv1 := [(0, .ref 0), (1, .int a1)]) (st1 := [.int (Int32.ofInt (-1))]) 1 (fun _ _ _ _ => rfl) ?_
    have h := Option.some.inj h
    subst h
    exact py_ir (pc := 9) (len := 1) (ty := .int) rfl rfl rfl hS
/-! X_house -/
noncomputable def fb_X_house_L51 (v3 : Int32) (rc : Int64 → Int32 → px_H → Option (Int32 × px_H)) (v4 : Int64) (v6 : Int32) (hp : px_H) : Option (Int32 × px_H) :=
  bif px_cmp .ge v6 (gI hp 1 0) then
    (fn_Walk_chanceOfAny v3 hp).bind fun q16 =>
    (fn_Row_tellOne q16 hp).bind fun q19 =>
    (fn_Row_tell v4 q19).bind fun q23 =>
    some ((Int32.ofInt 0), q23)
  else
    bif px_cmp .eq ((v3 >>> (v6 &&& 31)) &&& (Int32.ofInt 1)) 0 then
      rc v4 (v6 + Int32.ofInt 1) hp
    else
      (fn_Walk_chanceOfAny ((Int32.ofInt 1) <<< (v6 &&& 31)) hp).bind fun q30 =>
      rc (v4 + q30) (v6 + Int32.ofInt 1) hp
noncomputable def fn_X_house_L51 (v3 : Int32) : Nat → Int64 → Int32 → px_H → Option (Int32 × px_H)
  | 0 => fun _ _ _ => none
  | n + 1 => fb_X_house_L51 v3 (fn_X_house_L51 v3 n)
theorem fl_X_house_L51 {v3 : Int32}  : ∀ (n : Nat) (v4 : Int64) (v6 : Int32) (hp : px_H) (lv : List (Nat × Value)) (res : Int32 × px_H), oS hp → lk lv [(0, .ref 0), (3, .int v3), (4, .long v4), (6, .int v6)] → fn_X_house_L51 v3 n v4 v6 hp = some res → px_Y mm_X_house 51 lv [] hp (some (.int res.1)) res.2 := by
  intro n
  induction n with
  | zero =>
    intro v4 v6 hp lv res hS hk h
    cases h
  | succ n ih =>
    intro v4 v6 hp lv res hS hk h
    have h : fb_X_house_L51 v3 (fn_X_house_L51 v3 n) v4 v6 hp = some res := h
    unfold fb_X_house_L51 at h
    refine py_il (pc := 51) (len := 2) (j := 6) rfl hk rfl ?_
    refine py_aln (pc := 53) (len := 1) (j := 0) rfl hk rfl ?_
    refine py_g1 1 (pc := 54) (len := 3) (cs := [0]) rfl rfl rfl List.mem_cons_self hS ?_
    refine py_gI (pc := 57) (len := 3) (cs := [1]) rfl rfl rfl List.mem_cons_self hS ?_
    cases hb15 : px_cmp .ge v6 (gI hp 1 0) with
    | true =>
      have h := cd_t hb15 h
      refine py_ic (pc := 60) (len := 3) true rfl hb15 ?_
      refine py_aln (pc := 94) (len := 1) (j := 0) rfl hk rfl ?_
      refine py_g1 48 (pc := 95) (len := 3) (cs := [0]) rfl rfl rfl List.mem_cons_self hS ?_
      refine py_aln (pc := 98) (len := 1) (j := 0) rfl hk rfl ?_
      refine py_g1 28 (pc := 99) (len := 3) (cs := [0]) rfl rfl rfl List.mem_cons_self hS ?_
      refine py_iln (pc := 102) (len := 1) (j := 3) rfl hk rfl ?_
      obtain ⟨q16, hq17, h⟩ := bd_e h
      have hC18 := (fx_Walk_chanceOfAny hS hq17).1
      refine py_vi (pc := 103) (mi := mi_Walk_chanceOfAny) (cs := [28]) (N := mm_Walk_chanceOfAny) rfl rfl rfl rfl List.mem_cons_self hS rfl (Nat.le_of_ble_eq_true rfl) (Nat.le_of_ble_eq_true rfl) rfl rfl hC18 ?_
      show px_Y mm_X_house 106 lv [.long q16, .ref 48] hp _ _
      obtain ⟨q19, hq20, h⟩ := bd_e h
      obtain ⟨hC21, hS22⟩ := fx_Row_tellOne hS hq20
      refine py_vi (pc := 106) (mi := mi_Row_tellOne) (cs := [48]) (N := mm_Row_tellOne) rfl rfl rfl rfl List.mem_cons_self hS rfl (Nat.le_of_ble_eq_true rfl) (Nat.le_of_ble_eq_true rfl) rfl rfl hC21 ?_
      show px_Y mm_X_house 109 lv [] q19 _ _
      refine py_aln (pc := 109) (len := 1) (j := 0) rfl hk rfl ?_
      refine py_g1 48 (pc := 110) (len := 3) (cs := [0]) rfl rfl rfl List.mem_cons_self hS22 ?_
      refine py_ll (pc := 113) (len := 2) (j := 4) rfl hk rfl ?_
      obtain ⟨q23, hq24, h⟩ := bd_e h
      obtain ⟨hC25, hS26⟩ := fx_Row_tell hS22 hq24
      refine py_vi (pc := 115) (mi := mi_Row_tell) (cs := [48]) (N := mm_Row_tell) rfl rfl rfl rfl List.mem_cons_self hS22 rfl (Nat.le_of_ble_eq_true rfl) (Nat.le_of_ble_eq_true rfl) rfl rfl hC25 ?_
      show px_Y mm_X_house 118 lv [] q23 _ _
      refine py_its (pc := 118) (pc1 := 119) (lv1 := lv) (st1 := [.int (Int32.ofInt 0)]) 1 (fun _ _ _ _ => rfl) ?_
      have h := Option.some.inj h
      subst h
      exact py_ir (pc := 119) (len := 1) (ty := .int) rfl rfl rfl hS26
    | false =>
      have h := cd_f hb15 h
      refine py_ic (pc := 60) (len := 3) false rfl hb15 ?_
      refine py_iln (pc := 63) (len := 1) (j := 3) rfl hk rfl ?_
      refine py_il (pc := 64) (len := 2) (j := 6) rfl hk rfl ?_
      refine py_its (pc := 66) (pc1 := 69) (lv1 := lv) (st1 := [.int ((v3 >>> (v6 &&& 31)) &&& (Int32.ofInt 1))]) 3 (fun _ _ _ _ => rfl) ?_
      cases hb27 : px_cmp .eq ((v3 >>> (v6 &&& 31)) &&& (Int32.ofInt 1)) 0 with
      | true =>
        have h := cd_t hb27 h
        refine py_if (pc := 69) (len := 3) true rfl hb27 ?_
        refine py_inc (pc := 88) (len := 3) (j := 6) (n := 1) rfl rfl hk rfl (fun lv28 hk29 => ?_)
        have hk29 : lk lv28 [(6, .int (v6 + Int32.ofInt 1)), (0, .ref 0), (3, .int v3), (4, .long v4)] := hk29
        refine py_its (pc := 91) (pc1 := 51) (lv1 := lv28) (st1 := []) 1 (fun _ _ _ _ => rfl) ?_
        exact ih v4 (v6 + Int32.ofInt 1) hp lv28 _ hS ⟨lk_find hk29 rfl, lk_find hk29 rfl, lk_find hk29 rfl, lk_find hk29 rfl, trivial⟩ h
      | false =>
        have h := cd_f hb27 h
        refine py_if (pc := 69) (len := 3) false rfl hb27 ?_
        refine py_ll (pc := 72) (len := 2) (j := 4) rfl hk rfl ?_
        refine py_aln (pc := 74) (len := 1) (j := 0) rfl hk rfl ?_
        refine py_g1 28 (pc := 75) (len := 3) (cs := [0]) rfl rfl rfl List.mem_cons_self hS ?_
        refine py_its (pc := 78) (pc1 := 79) (lv1 := lv) (st1 := [.int (Int32.ofInt 1), .ref 28, .long v4]) 1 (fun _ _ _ _ => rfl) ?_
        refine py_il (pc := 79) (len := 2) (j := 6) rfl hk rfl ?_
        refine py_its (pc := 81) (pc1 := 82) (lv1 := lv) (st1 := [.int ((Int32.ofInt 1) <<< (v6 &&& 31)), .ref 28, .long v4]) 1 (fun _ _ _ _ => rfl) ?_
        obtain ⟨q30, hq31, h⟩ := bd_e h
        have hC32 := (fx_Walk_chanceOfAny hS hq31).1
        refine py_vi (pc := 82) (mi := mi_Walk_chanceOfAny) (cs := [28]) (N := mm_Walk_chanceOfAny) rfl rfl rfl rfl List.mem_cons_self hS rfl (Nat.le_of_ble_eq_true rfl) (Nat.le_of_ble_eq_true rfl) rfl rfl hC32 ?_
        show px_Y mm_X_house 85 lv [.long q30, .long v4] hp _ _
        refine py_its (pc := 85) (pc1 := 86) (lv1 := lv) (st1 := [.long (v4 + q30)]) 1 (fun _ _ _ _ => rfl) ?_
        refine py_stl (pc := 86) (len := 2) (j := 4) rfl rfl hk (fun lv33 hk34 => ?_)
        have hk34 : lk lv33 [(4, .long (v4 + q30)), (0, .ref 0), (3, .int v3), (6, .int v6)] := hk34
        refine py_inc (pc := 88) (len := 3) (j := 6) (n := 1) rfl rfl hk34 rfl (fun lv35 hk36 => ?_)
        have hk36 : lk lv35 [(6, .int (v6 + Int32.ofInt 1)), (4, .long (v4 + q30)), (0, .ref 0), (3, .int v3)] := hk36
        refine py_its (pc := 91) (pc1 := 51) (lv1 := lv35) (st1 := []) 1 (fun _ _ _ _ => rfl) ?_
        exact ih (v4 + q30) (v6 + Int32.ofInt 1) hp lv35 _ hS ⟨lk_find hk36 rfl, lk_find hk36 rfl, lk_find hk36 rfl, lk_find hk36 rfl, trivial⟩ h
noncomputable def fn_X_house (a1 : Int32) (a2 : Int32) (hp : px_H) : Option (Int32 × px_H) :=
  bif px_cmp .lt a1 0 then
    some ((Int32.ofInt (-1)), hp)
  else
    bif px_cmp .ge a1 (Int8.ofInt 6).toInt32 then
      some ((Int32.ofInt (-1)), hp)
    else
      (fn_X_isAhead a2 hp).bind fun q3 =>
      bif px_cmp .ne q3 0 then
        (fn_X_walkBy 14 (Int32.ofInt 0) a2 hp).bind fun q7 =>
        bif px_cmp .ne q7.1 0 then
          (fn_Town_ofHouse a1 q7.2).bind fun q12 =>
          fn_X_house_L51 q12 fu (Int64.ofNat 0) (Int32.ofInt 0) q7.2
        else
          some ((Int8.ofInt (-3)).toInt32, q7.2)
      else
        some ((Int32.ofInt (-1)), hp)
theorem fx_X_house {a1 : Int32} {a2 : Int32} {hp : px_H} {res : Int32 × px_H} (hS : oS hp) (h : fn_X_house a1 a2 hp = some res) : px_C nm_T nm_P mi_X_house [.ref 0, .int a1, .int a2] hp (some (.int res.1)) res.2 ∧ oS res.2 := by
  unfold fn_X_house at h
  refine py_C (M := mm_X_house) rfl (Nat.le_of_ble_eq_true rfl) ?_
  show px_Y mm_X_house 0 [(0, .ref 0), (1, .int a1), (2, .int a2)] [] hp _ _
  refine py_its (pc := 0) (pc1 := 1) (lv1 := [(0, .ref 0), (1, .int a1), (2, .int a2)]) (st1 := [.int a1]) 1 (fun _ _ _ _ => rfl) ?_
  cases hb1 : px_cmp .lt a1 0 with
  | true =>
    have h := cd_t hb1 h
    refine py_if (pc := 1) (len := 3) true rfl hb1 ?_
    refine py_its (pc := 18) (pc1 := 19) (lv1 := [(0, .ref 0), (1, .int a1), (2, .int a2)]) (st1 := [.int (Int32.ofInt (-1))]) 1 (fun _ _ _ _ => rfl) ?_
    have h := Option.some.inj h
    subst h
    exact py_ir (pc := 19) (len := 1) (ty := .int) rfl rfl rfl hS
  | false =>
    have h := cd_f hb1 h
    refine py_if (pc := 1) (len := 3) false rfl hb1 ?_
    refine py_its (pc := 4) (pc1 := 7) (lv1 := [(0, .ref 0), (1, .int a1), (2, .int a2)]) (st1 := [.int (Int8.ofInt 6).toInt32, .int a1]) 2 (fun _ _ _ _ => rfl) ?_
    cases hb2 : px_cmp .ge a1 (Int8.ofInt 6).toInt32 with
    | true =>
      have h := cd_t hb2 h
      refine py_ic (pc := 7) (len := 3) true rfl hb2 ?_
      refine py_its (pc := 18) (pc1 := 19) (lv1 := [(0, .ref 0), (1, .int a1), (2, .int a2)]) (st1 := [.int (Int32.ofInt (-1))]) 1 (fun _ _ _ _ => rfl) ?_
      have h := Option.some.inj h
      subst h
      exact py_ir (pc := 19) (len := 1) (ty := .int) rfl rfl rfl hS
    | false =>
      have h := cd_f hb2 h
      refine py_ic (pc := 7) (len := 3) false rfl hb2 ?_
      refine py_its (pc := 10) (pc1 := 12) (lv1 := [(0, .ref 0), (1, .int a1), (2, .int a2)]) (st1 := [.int a2, .ref 0]) 2 (fun _ _ _ _ => rfl) ?_
      obtain ⟨q3, hq4, h⟩ := bd_e h
      have hC5 := (fx_X_isAhead hS hq4).1
      refine py_vi (pc := 12) (mi := mi_X_isAhead) (cs := [0]) (N := mm_X_isAhead) rfl rfl rfl rfl List.mem_cons_self hS rfl (Nat.le_of_ble_eq_true rfl) (Nat.le_of_ble_eq_true rfl) rfl rfl hC5 ?_
      show px_Y mm_X_house 15 [(0, .ref 0), (1, .int a1), (2, .int a2)] [.int q3] hp _ _
      cases hb6 : px_cmp .ne q3 0 with
      | true =>
        have h := cd_t hb6 h
        refine py_if (pc := 15) (len := 3) true rfl hb6 ?_
        refine py_its (pc := 20) (pc1 := 22) (lv1 := [(0, .ref 0), (1, .int a1), (2, .int a2)]) (st1 := [.ref 0, .ref 0]) 2 (fun _ _ _ _ => rfl) ?_
        refine py_g1 14 (pc := 22) (len := 3) (cs := [0]) rfl rfl rfl List.mem_cons_self hS ?_
        refine py_its (pc := 25) (pc1 := 27) (lv1 := [(0, .ref 0), (1, .int a1), (2, .int a2)]) (st1 := [.int a2, .int (Int32.ofInt 0), .ref 14, .ref 0]) 2 (fun _ _ _ _ => rfl) ?_
        obtain ⟨q7, hq8, h⟩ := bd_e h
        obtain ⟨hC9, hS10⟩ := fx_X_walkBy (List.mem_of_elem_eq_true rfl) hS hq8
        refine py_vi (pc := 27) (mi := mi_X_walkBy) (cs := [0]) (N := mm_X_walkBy) rfl rfl rfl rfl List.mem_cons_self hS rfl (Nat.le_of_ble_eq_true rfl) (Nat.le_of_ble_eq_true rfl) rfl rfl hC9 ?_
        show px_Y mm_X_house 30 [(0, .ref 0), (1, .int a1), (2, .int a2)] [.int q7.1] q7.2 _ _
        cases hb11 : px_cmp .ne q7.1 0 with
        | true =>
          have h := cd_t hb11 h
          refine py_if (pc := 30) (len := 3) true rfl hb11 ?_
          refine py_its (pc := 36) (pc1 := 37) (lv1 := [(0, .ref 0), (1, .int a1), (2, .int a2)]) (st1 := [.ref 0]) 1 (fun _ _ _ _ => rfl) ?_
          refine py_g1 1 (pc := 37) (len := 3) (cs := [0]) rfl rfl rfl List.mem_cons_self hS10 ?_
          refine py_its (pc := 40) (pc1 := 41) (lv1 := [(0, .ref 0), (1, .int a1), (2, .int a2)]) (st1 := [.int a1, .ref 1]) 1 (fun _ _ _ _ => rfl) ?_
          obtain ⟨q12, hq13, h⟩ := bd_e h
          have hC14 := (fx_Town_ofHouse hS10 hq13).1
          refine py_vi (pc := 41) (mi := mi_Town_ofHouse) (cs := [1]) (N := mm_Town_ofHouse) rfl rfl rfl rfl List.mem_cons_self hS10 rfl (Nat.le_of_ble_eq_true rfl) (Nat.le_of_ble_eq_true rfl) rfl rfl hC14 ?_
          show px_Y mm_X_house 44 [(0, .ref 0), (1, .int a1), (2, .int a2)] [.int q12] q7.2 _ _
          refine py_its (pc := 44) (pc1 := 51) (lv1 := [(6, .int (Int32.ofInt 0)), (4, .long (Int64.ofNat 0)), (3, .int q12), (0, .ref 0), (1, .int a1), (2, .int a2)]) (st1 := []) 5 (fun _ _ _ _ => rfl) ?_
          exact fl_X_house_L51 fu (Int64.ofNat 0) (Int32.ofInt 0) q7.2 [(6, .int (Int32.ofInt 0)), (4, .long (Int64.ofNat 0)), (3, .int q12), (0, .ref 0), (1, .int a1), (2, .int a2)] _ hS10 ⟨rfl, rfl, rfl, rfl, trivial⟩ h
        | false =>
          have h := cd_f hb11 h
          refine py_if (pc := 30) (len := 3) false rfl hb11 ?_
          refine py_its (pc := 33) (pc1 := 35) (lv1 := [(0, .ref 0), (1, .int a1), (2, .int a2)]) (st1 := [.int (Int8.ofInt (-3)).toInt32]) 1 (fun _ _ _ _ => rfl) ?_
          have h := Option.some.inj h
          subst h
          exact py_ir (pc := 35) (len := 1) (ty := .int) rfl rfl rfl hS10
      | false =>
        have h := cd_f hb6 h
        refine py_if (pc := 15) (len := 3) false rfl hb6 ?_
        refine py_its (pc := 18) (pc1 := 19) (lv1 := [(0, .ref 0), (1, .int a1), (2, .int a2)]) (st1 := [.int (Int32.ofInt (-1))]) 1 (fun _ _ _ _ => rfl) ?_
        have h := Option.some.inj h
        subst h
        exact py_ir (pc := 19) (len := 1) (ty := .int) rfl rfl rfl hS
/-! X_ways -/
noncomputable def fn_X_ways (a1 : Int32) (hp : px_H) : Option (Int32 × px_H) :=
  (fn_X_isAhead a1 hp).bind fun q1 =>
  bif px_cmp .ne q1 0 then
    (fn_X_walkBy 14 (Int32.ofInt 0) a1 hp).bind fun q5 =>
    bif px_cmp .eq q5.1 0 then
      some ((Int8.ofInt (-3)).toInt32, q5.2)
    else
      some ((gI q5.2 (gR q5.2 28 2) 3), q5.2)
  else
    some ((Int32.ofInt (-1)), hp)
theorem fx_X_ways {a1 : Int32} {hp : px_H} {res : Int32 × px_H} (hS : oS hp) (h : fn_X_ways a1 hp = some res) : px_C nm_T nm_P mi_X_ways [.ref 0, .int a1] hp (some (.int res.1)) res.2 ∧ oS res.2 := by
  unfold fn_X_ways at h
  refine py_C (M := mm_X_ways) rfl (Nat.le_of_ble_eq_true rfl) ?_
  show px_Y mm_X_ways 0 [(0, .ref 0), (1, .int a1)] [] hp _ _
  refine py_its (pc := 0) (pc1 := 2) (lv1 := [(0, .ref 0), (1, .int a1)]) (st1 := [.int a1, .ref 0]) 2 (fun _ _ _ _ => rfl) ?_
  obtain ⟨q1, hq2, h⟩ := bd_e h
  have hC3 := (fx_X_isAhead hS hq2).1
  refine py_vi (pc := 2) (mi := mi_X_isAhead) (cs := [0]) (N := mm_X_isAhead) rfl rfl rfl rfl List.mem_cons_self hS rfl (Nat.le_of_ble_eq_true rfl) (Nat.le_of_ble_eq_true rfl) rfl rfl hC3 ?_
  show px_Y mm_X_ways 5 [(0, .ref 0), (1, .int a1)] [.int q1] hp _ _
  cases hb4 : px_cmp .ne q1 0 with
  | true =>
    have h := cd_t hb4 h
    refine py_if (pc := 5) (len := 3) true rfl hb4 ?_
    refine py_its (pc := 10) (pc1 := 12) (lv1 := [(0, .ref 0), (1, .int a1)]) (st1 := [.ref 0, .ref 0]) 2 (fun _ _ _ _ => rfl) ?_
    refine py_g1 14 (pc := 12) (len := 3) (cs := [0]) rfl rfl rfl List.mem_cons_self hS ?_
    refine py_its (pc := 15) (pc1 := 17) (lv1 := [(0, .ref 0), (1, .int a1)]) (st1 := [.int a1, .int (Int32.ofInt 0), .ref 14, .ref 0]) 2 (fun _ _ _ _ => rfl) ?_
    obtain ⟨q5, hq6, h⟩ := bd_e h
    obtain ⟨hC7, hS8⟩ := fx_X_walkBy (List.mem_of_elem_eq_true rfl) hS hq6
    refine py_vi (pc := 17) (mi := mi_X_walkBy) (cs := [0]) (N := mm_X_walkBy) rfl rfl rfl rfl List.mem_cons_self hS rfl (Nat.le_of_ble_eq_true rfl) (Nat.le_of_ble_eq_true rfl) rfl rfl hC7 ?_
    show px_Y mm_X_ways 20 [(0, .ref 0), (1, .int a1)] [.int q5.1] q5.2 _ _
    cases hb9 : px_cmp .eq q5.1 0 with
    | true =>
      have h := cd_t hb9 h
      refine py_if (pc := 20) (len := 3) true rfl hb9 ?_
      refine py_its (pc := 36) (pc1 := 38) (lv1 := [(0, .ref 0), (1, .int a1)]) (st1 := [.int (Int8.ofInt (-3)).toInt32]) 1 (fun _ _ _ _ => rfl) ?_
      have h := Option.some.inj h
      subst h
      exact py_ir (pc := 38) (len := 1) (ty := .int) rfl rfl rfl hS8
    | false =>
      have h := cd_f hb9 h
      refine py_if (pc := 20) (len := 3) false rfl hb9 ?_
      refine py_its (pc := 23) (pc1 := 24) (lv1 := [(0, .ref 0), (1, .int a1)]) (st1 := [.ref 0]) 1 (fun _ _ _ _ => rfl) ?_
      refine py_g1 28 (pc := 24) (len := 3) (cs := [0]) rfl rfl rfl List.mem_cons_self hS8 ?_
      refine py_gR [29, 35, 41] (pc := 27) (len := 3) (cs := [28]) rfl rfl rfl List.mem_cons_self hS8 (fun hm10 => ?_)
      refine py_gI (pc := 30) (len := 3) (cs := [29, 35, 41]) rfl rfl rfl hm10 hS8 ?_
      refine py_its (pc := 33) (pc1 := 38) (lv1 := [(0, .ref 0), (1, .int a1)]) (st1 := [.int (gI q5.2 (gR q5.2 28 2) 3)]) 1 (fun _ _ _ _ => rfl) ?_
      have h := Option.some.inj h
      subst h
      exact py_ir (pc := 38) (len := 1) (ty := .int) rfl rfl rfl hS8
  | false =>
    have h := cd_f hb4 h
    refine py_if (pc := 5) (len := 3) false rfl hb4 ?_
    refine py_its (pc := 8) (pc1 := 9) (lv1 := [(0, .ref 0), (1, .int a1)]) (st1 := [.int (Int32.ofInt (-1))]) 1 (fun _ _ _ _ => rfl) ?_
    have h := Option.some.inj h
    subst h
    exact py_ir (pc := 9) (len := 1) (ty := .int) rfl rfl rfl hS
/-! Walk_whoAlwaysSit -/
noncomputable def fb_Walk_whoAlwaysSit_L20 (hp : px_H) (rc : Int32 → Int32 → Option (Int32)) (v1 : Int32) (v2 : Int32) : Option (Int32) :=
  bif px_cmp .ge v2 (gI hp (gR hp 28 2) 3) then
    some v1
  else
    (fn_Table_sittingAt (gR hp 28 2) v2 hp).bind fun q6 =>
    rc (v1 &&& q6) (v2 + Int32.ofInt 1)
noncomputable def fn_Walk_whoAlwaysSit_L20 (hp : px_H) : Nat → Int32 → Int32 → Option (Int32)
  | 0 => fun _ _ => none
  | n + 1 => fb_Walk_whoAlwaysSit_L20 hp (fn_Walk_whoAlwaysSit_L20 hp n)
theorem fl_Walk_whoAlwaysSit_L20 {hp : px_H}  : ∀ (n : Nat) (v1 : Int32) (v2 : Int32) (lv : List (Nat × Value)) (res : Int32), oS hp → lk lv [(0, .ref 28), (1, .int v1), (2, .int v2)] → fn_Walk_whoAlwaysSit_L20 hp n v1 v2 = some res → px_Y mm_Walk_whoAlwaysSit 20 lv [] hp (some (.int res)) hp := by
  intro n
  induction n with
  | zero =>
    intro v1 v2 lv res hS hk h
    cases h
  | succ n ih =>
    intro v1 v2 lv res hS hk h
    have h : fb_Walk_whoAlwaysSit_L20 hp (fn_Walk_whoAlwaysSit_L20 hp n) v1 v2 = some res := h
    unfold fb_Walk_whoAlwaysSit_L20 at h
    refine py_iln (pc := 20) (len := 1) (j := 2) rfl hk rfl ?_
    refine py_aln (pc := 21) (len := 1) (j := 0) rfl hk rfl ?_
    refine py_gR [29, 35, 41] (pc := 22) (len := 3) (cs := [28]) rfl rfl rfl List.mem_cons_self hS (fun hm3 => ?_)
    refine py_gI (pc := 25) (len := 3) (cs := [29, 35, 41]) rfl rfl rfl hm3 hS ?_
    cases hb4 : px_cmp .ge v2 (gI hp (gR hp 28 2) 3) with
    | true =>
      have h := cd_t hb4 h
      refine py_ic (pc := 28) (len := 3) true rfl hb4 ?_
      refine py_iln (pc := 48) (len := 1) (j := 1) rfl hk rfl ?_
      have h := Option.some.inj h
      subst h
      exact py_ir (pc := 49) (len := 1) (ty := .int) rfl rfl rfl hS
    | false =>
      have h := cd_f hb4 h
      refine py_ic (pc := 28) (len := 3) false rfl hb4 ?_
      refine py_iln (pc := 31) (len := 1) (j := 1) rfl hk rfl ?_
      refine py_aln (pc := 32) (len := 1) (j := 0) rfl hk rfl ?_
      refine py_gR [29, 35, 41] (pc := 33) (len := 3) (cs := [28]) rfl rfl rfl List.mem_cons_self hS (fun hm5 => ?_)
      refine py_iln (pc := 36) (len := 1) (j := 2) rfl hk rfl ?_
      obtain ⟨q6, hq7, h⟩ := bd_e h
      have hC8 := (fx_Table_sittingAt hm5 hS hq7).1
      refine py_vi (pc := 37) (mi := mi_Table_sittingAt) (cs := [29, 35, 41]) (N := mm_Table_sittingAt) rfl rfl rfl rfl hm5 hS rfl (Nat.le_of_ble_eq_true rfl) (Nat.le_of_ble_eq_true rfl) rfl rfl hC8 ?_
      show px_Y mm_Walk_whoAlwaysSit 40 lv [.int q6, .int v1] hp _ _
      refine py_its (pc := 40) (pc1 := 41) (lv1 := lv) (st1 := [.int (v1 &&& q6)]) 1 (fun _ _ _ _ => rfl) ?_
      refine py_sin (pc := 41) (len := 1) (j := 1) rfl rfl hk (fun lv9 hk10 => ?_)
      have hk10 : lk lv9 [(1, .int (v1 &&& q6)), (0, .ref 28), (2, .int v2)] := hk10
      refine py_inc (pc := 42) (len := 3) (j := 2) (n := 1) rfl rfl hk10 rfl (fun lv11 hk12 => ?_)
      have hk12 : lk lv11 [(2, .int (v2 + Int32.ofInt 1)), (1, .int (v1 &&& q6)), (0, .ref 28)] := hk12
      refine py_its (pc := 45) (pc1 := 20) (lv1 := lv11) (st1 := []) 1 (fun _ _ _ _ => rfl) ?_
      exact ih (v1 &&& q6) (v2 + Int32.ofInt 1) lv11 _ hS ⟨lk_find hk12 rfl, lk_find hk12 rfl, lk_find hk12 rfl, trivial⟩ h
noncomputable def fn_Walk_whoAlwaysSit  (hp : px_H) : Option (Int32) :=
  bif px_cmp .le (gI hp (gR hp 28 2) 3) 0 then
    fn_Walk_whoAlwaysSit_L20 hp fu (Int32.ofInt 0) (Int32.ofInt 0)
  else
    fn_Walk_whoAlwaysSit_L20 hp fu (Int16.ofInt 1023).toInt32 (Int32.ofInt 0)
theorem fx_Walk_whoAlwaysSit  {hp : px_H} {res : Int32} (hS : oS hp) (h : fn_Walk_whoAlwaysSit hp = some res) : px_C nm_T nm_P mi_Walk_whoAlwaysSit [.ref 28] hp (some (.int res)) hp ∧ oS hp := by
  unfold fn_Walk_whoAlwaysSit at h
  refine py_C (M := mm_Walk_whoAlwaysSit) rfl (Nat.le_of_ble_eq_true rfl) ?_
  show px_Y mm_Walk_whoAlwaysSit 0 [(0, .ref 28)] [] hp _ _
  refine py_its (pc := 0) (pc1 := 1) (lv1 := [(0, .ref 28)]) (st1 := [.ref 28]) 1 (fun _ _ _ _ => rfl) ?_
  refine py_gR [29, 35, 41] (pc := 1) (len := 3) (cs := [28]) rfl rfl rfl List.mem_cons_self hS (fun hm1 => ?_)
  refine py_gI (pc := 4) (len := 3) (cs := [29, 35, 41]) rfl rfl rfl hm1 hS ?_
  cases hb2 : px_cmp .le (gI hp (gR hp 28 2) 3) 0 with
  | true =>
    have h := cd_t hb2 h
    refine py_if (pc := 7) (len := 3) true rfl hb2 ?_
    refine py_its (pc := 16) (pc1 := 20) (lv1 := [(2, .int (Int32.ofInt 0)), (1, .int (Int32.ofInt 0)), (0, .ref 28)]) (st1 := []) 4 (fun _ _ _ _ => rfl) ?_
    exact fl_Walk_whoAlwaysSit_L20 fu (Int32.ofInt 0) (Int32.ofInt 0) [(2, .int (Int32.ofInt 0)), (1, .int (Int32.ofInt 0)), (0, .ref 28)] _ hS ⟨rfl, rfl, rfl, trivial⟩ h
  | false =>
    have h := cd_f hb2 h
    refine py_if (pc := 7) (len := 3) false rfl hb2 ?_
    refine py_its (pc := 10) (pc1 := 20) (lv1 := [(2, .int (Int32.ofInt 0)), (1, .int (Int16.ofInt 1023).toInt32), (0, .ref 28)]) (st1 := []) 5 (fun _ _ _ _ => rfl) ?_
    exact fl_Walk_whoAlwaysSit_L20 fu (Int16.ofInt 1023).toInt32 (Int32.ofInt 0) [(2, .int (Int32.ofInt 0)), (1, .int (Int16.ofInt 1023).toInt32), (0, .ref 28)] _ hS ⟨rfl, rfl, rfl, trivial⟩ h
/-! Walk_whoMaySit -/
noncomputable def fb_Walk_whoMaySit_L4 (hp : px_H) (rc : Int32 → Int32 → Option (Int32)) (v1 : Int32) (v2 : Int32) : Option (Int32) :=
  bif px_cmp .ge v2 (gI hp (gR hp 28 2) 3) then
    some v1
  else
    (fn_Table_sittingAt (gR hp 28 2) v2 hp).bind fun q4 =>
    rc (v1 ||| q4) (v2 + Int32.ofInt 1)
noncomputable def fn_Walk_whoMaySit_L4 (hp : px_H) : Nat → Int32 → Int32 → Option (Int32)
  | 0 => fun _ _ => none
  | n + 1 => fb_Walk_whoMaySit_L4 hp (fn_Walk_whoMaySit_L4 hp n)
theorem fl_Walk_whoMaySit_L4 {hp : px_H}  : ∀ (n : Nat) (v1 : Int32) (v2 : Int32) (lv : List (Nat × Value)) (res : Int32), oS hp → lk lv [(0, .ref 28), (1, .int v1), (2, .int v2)] → fn_Walk_whoMaySit_L4 hp n v1 v2 = some res → px_Y mm_Walk_whoMaySit 4 lv [] hp (some (.int res)) hp := by
  intro n
  induction n with
  | zero =>
    intro v1 v2 lv res hS hk h
    cases h
  | succ n ih =>
    intro v1 v2 lv res hS hk h
    have h : fb_Walk_whoMaySit_L4 hp (fn_Walk_whoMaySit_L4 hp n) v1 v2 = some res := h
    unfold fb_Walk_whoMaySit_L4 at h
    refine py_iln (pc := 4) (len := 1) (j := 2) rfl hk rfl ?_
    refine py_aln (pc := 5) (len := 1) (j := 0) rfl hk rfl ?_
    refine py_gR [29, 35, 41] (pc := 6) (len := 3) (cs := [28]) rfl rfl rfl List.mem_cons_self hS (fun hm1 => ?_)
    refine py_gI (pc := 9) (len := 3) (cs := [29, 35, 41]) rfl rfl rfl hm1 hS ?_
    cases hb2 : px_cmp .ge v2 (gI hp (gR hp 28 2) 3) with
    | true =>
      have h := cd_t hb2 h
      refine py_ic (pc := 12) (len := 3) true rfl hb2 ?_
      refine py_iln (pc := 32) (len := 1) (j := 1) rfl hk rfl ?_
      have h := Option.some.inj h
      subst h
      exact py_ir (pc := 33) (len := 1) (ty := .int) rfl rfl rfl hS
    | false =>
      have h := cd_f hb2 h
      refine py_ic (pc := 12) (len := 3) false rfl hb2 ?_
      refine py_iln (pc := 15) (len := 1) (j := 1) rfl hk rfl ?_
      refine py_aln (pc := 16) (len := 1) (j := 0) rfl hk rfl ?_
      refine py_gR [29, 35, 41] (pc := 17) (len := 3) (cs := [28]) rfl rfl rfl List.mem_cons_self hS (fun hm3 => ?_)
      refine py_iln (pc := 20) (len := 1) (j := 2) rfl hk rfl ?_
      obtain ⟨q4, hq5, h⟩ := bd_e h
      have hC6 := (fx_Table_sittingAt hm3 hS hq5).1
      refine py_vi (pc := 21) (mi := mi_Table_sittingAt) (cs := [29, 35, 41]) (N := mm_Table_sittingAt) rfl rfl rfl rfl hm3 hS rfl (Nat.le_of_ble_eq_true rfl) (Nat.le_of_ble_eq_true rfl) rfl rfl hC6 ?_
      show px_Y mm_Walk_whoMaySit 24 lv [.int q4, .int v1] hp _ _
      refine py_its (pc := 24) (pc1 := 25) (lv1 := lv) (st1 := [.int (v1 ||| q4)]) 1 (fun _ _ _ _ => rfl) ?_
      refine py_sin (pc := 25) (len := 1) (j := 1) rfl rfl hk (fun lv7 hk8 => ?_)
      have hk8 : lk lv7 [(1, .int (v1 ||| q4)), (0, .ref 28), (2, .int v2)] := hk8
      refine py_inc (pc := 26) (len := 3) (j := 2) (n := 1) rfl rfl hk8 rfl (fun lv9 hk10 => ?_)
      have hk10 : lk lv9 [(2, .int (v2 + Int32.ofInt 1)), (1, .int (v1 ||| q4)), (0, .ref 28)] := hk10
      refine py_its (pc := 29) (pc1 := 4) (lv1 := lv9) (st1 := []) 1 (fun _ _ _ _ => rfl) ?_
      exact ih (v1 ||| q4) (v2 + Int32.ofInt 1) lv9 _ hS ⟨lk_find hk10 rfl, lk_find hk10 rfl, lk_find hk10 rfl, trivial⟩ h
noncomputable def fn_Walk_whoMaySit  (hp : px_H) : Option (Int32) :=
  fn_Walk_whoMaySit_L4 hp fu (Int32.ofInt 0) (Int32.ofInt 0)
theorem fx_Walk_whoMaySit  {hp : px_H} {res : Int32} (hS : oS hp) (h : fn_Walk_whoMaySit hp = some res) : px_C nm_T nm_P mi_Walk_whoMaySit [.ref 28] hp (some (.int res)) hp ∧ oS hp := by
  unfold fn_Walk_whoMaySit at h
  refine py_C (M := mm_Walk_whoMaySit) rfl (Nat.le_of_ble_eq_true rfl) ?_
  show px_Y mm_Walk_whoMaySit 0 [(0, .ref 28)] [] hp _ _
  refine py_its (pc := 0) (pc1 := 4) (lv1 := [(2, .int (Int32.ofInt 0)), (1, .int (Int32.ofInt 0)), (0, .ref 28)]) (st1 := []) 4 (fun _ _ _ _ => rfl) ?_
  exact fl_Walk_whoMaySit_L4 fu (Int32.ofInt 0) (Int32.ofInt 0) [(2, .int (Int32.ofInt 0)), (1, .int (Int32.ofInt 0)), (0, .ref 28)] _ hS ⟨rfl, rfl, rfl, trivial⟩ h
/-! X_sure -/
noncomputable def fn_X_sure (a1 : Int32) (a2 : Int32) (hp : px_H) : Option (Int32 × px_H) :=
  (fn_X_isAhead a1 hp).bind fun q1 =>
  bif px_cmp .eq q1 0 then
    some ((Int32.ofInt (-1)), hp)
  else
    bif px_cmp .lt a2 0 then
      some ((Int32.ofInt (-1)), hp)
    else
      bif px_cmp .le a2 (Int32.ofInt 1) then
        (fn_X_walkBy 14 (Int32.ofInt 0) a1 hp).bind fun q7 =>
        bif px_cmp .ne q7.1 0 then
          bif px_cmp .ne a2 0 then
            (fn_Walk_whoMaySit q7.2).bind fun q13 =>
            some (q13, q7.2)
          else
            (fn_Walk_whoAlwaysSit q7.2).bind fun q16 =>
            some (q16, q7.2)
        else
          some ((Int8.ofInt (-3)).toInt32, q7.2)
      else
        some ((Int32.ofInt (-1)), hp)
theorem fx_X_sure {a1 : Int32} {a2 : Int32} {hp : px_H} {res : Int32 × px_H} (hS : oS hp) (h : fn_X_sure a1 a2 hp = some res) : px_C nm_T nm_P mi_X_sure [.ref 0, .int a1, .int a2] hp (some (.int res.1)) res.2 ∧ oS res.2 := by
  unfold fn_X_sure at h
  refine py_C (M := mm_X_sure) rfl (Nat.le_of_ble_eq_true rfl) ?_
  show px_Y mm_X_sure 0 [(0, .ref 0), (1, .int a1), (2, .int a2)] [] hp _ _
  refine py_its (pc := 0) (pc1 := 2) (lv1 := [(0, .ref 0), (1, .int a1), (2, .int a2)]) (st1 := [.int a1, .ref 0]) 2 (fun _ _ _ _ => rfl) ?_
  obtain ⟨q1, hq2, h⟩ := bd_e h
  have hC3 := (fx_X_isAhead hS hq2).1
  refine py_vi (pc := 2) (mi := mi_X_isAhead) (cs := [0]) (N := mm_X_isAhead) rfl rfl rfl rfl List.mem_cons_self hS rfl (Nat.le_of_ble_eq_true rfl) (Nat.le_of_ble_eq_true rfl) rfl rfl hC3 ?_
  show px_Y mm_X_sure 5 [(0, .ref 0), (1, .int a1), (2, .int a2)] [.int q1] hp _ _
  cases hb4 : px_cmp .eq q1 0 with
  | true =>
    have h := cd_t hb4 h
    refine py_if (pc := 5) (len := 3) true rfl hb4 ?_
    refine py_its (pc := 17) (pc1 := 18) (lv1 := [(0, .ref 0), (1, .int a1), (2, .int a2)]) (st1 := [.int (Int32.ofInt (-1))]) 1 (fun _ _ _ _ => rfl) ?_
    have h := Option.some.inj h
    subst h
    exact py_ir (pc := 18) (len := 1) (ty := .int) rfl rfl rfl hS
  | false =>
    have h := cd_f hb4 h
    refine py_if (pc := 5) (len := 3) false rfl hb4 ?_
    refine py_its (pc := 8) (pc1 := 9) (lv1 := [(0, .ref 0), (1, .int a1), (2, .int a2)]) (st1 := [.int a2]) 1 (fun _ _ _ _ => rfl) ?_
    cases hb5 : px_cmp .lt a2 0 with
    | true =>
      have h := cd_t hb5 h
      refine py_if (pc := 9) (len := 3) true rfl hb5 ?_
      refine py_its (pc := 17) (pc1 := 18) (lv1 := [(0, .ref 0), (1, .int a1), (2, .int a2)]) (st1 := [.int (Int32.ofInt (-1))]) 1 (fun _ _ _ _ => rfl) ?_
      have h := Option.some.inj h
      subst h
      exact py_ir (pc := 18) (len := 1) (ty := .int) rfl rfl rfl hS
    | false =>
      have h := cd_f hb5 h
      refine py_if (pc := 9) (len := 3) false rfl hb5 ?_
      refine py_its (pc := 12) (pc1 := 14) (lv1 := [(0, .ref 0), (1, .int a1), (2, .int a2)]) (st1 := [.int (Int32.ofInt 1), .int a2]) 2 (fun _ _ _ _ => rfl) ?_
      cases hb6 : px_cmp .le a2 (Int32.ofInt 1) with
      | true =>
        have h := cd_t hb6 h
        refine py_ic (pc := 14) (len := 3) true rfl hb6 ?_
        refine py_its (pc := 19) (pc1 := 21) (lv1 := [(0, .ref 0), (1, .int a1), (2, .int a2)]) (st1 := [.ref 0, .ref 0]) 2 (fun _ _ _ _ => rfl) ?_
        refine py_g1 14 (pc := 21) (len := 3) (cs := [0]) rfl rfl rfl List.mem_cons_self hS ?_
        refine py_its (pc := 24) (pc1 := 26) (lv1 := [(0, .ref 0), (1, .int a1), (2, .int a2)]) (st1 := [.int a1, .int (Int32.ofInt 0), .ref 14, .ref 0]) 2 (fun _ _ _ _ => rfl) ?_
        obtain ⟨q7, hq8, h⟩ := bd_e h
        obtain ⟨hC9, hS10⟩ := fx_X_walkBy (List.mem_of_elem_eq_true rfl) hS hq8
        refine py_vi (pc := 26) (mi := mi_X_walkBy) (cs := [0]) (N := mm_X_walkBy) rfl rfl rfl rfl List.mem_cons_self hS rfl (Nat.le_of_ble_eq_true rfl) (Nat.le_of_ble_eq_true rfl) rfl rfl hC9 ?_
        show px_Y mm_X_sure 29 [(0, .ref 0), (1, .int a1), (2, .int a2)] [.int q7.1] q7.2 _ _
        cases hb11 : px_cmp .ne q7.1 0 with
        | true =>
          have h := cd_t hb11 h
          refine py_if (pc := 29) (len := 3) true rfl hb11 ?_
          refine py_its (pc := 35) (pc1 := 36) (lv1 := [(0, .ref 0), (1, .int a1), (2, .int a2)]) (st1 := [.int a2]) 1 (fun _ _ _ _ => rfl) ?_
          cases hb12 : px_cmp .ne a2 0 with
          | true =>
            have h := cd_t hb12 h
            refine py_if (pc := 36) (len := 3) true rfl hb12 ?_
            refine py_its (pc := 49) (pc1 := 50) (lv1 := [(0, .ref 0), (1, .int a1), (2, .int a2)]) (st1 := [.ref 0]) 1 (fun _ _ _ _ => rfl) ?_
            refine py_g1 28 (pc := 50) (len := 3) (cs := [0]) rfl rfl rfl List.mem_cons_self hS10 ?_
            obtain ⟨q13, hq14, h⟩ := bd_e h
            have hC15 := (fx_Walk_whoMaySit hS10 hq14).1
            refine py_vi (pc := 53) (mi := mi_Walk_whoMaySit) (cs := [28]) (N := mm_Walk_whoMaySit) rfl rfl rfl rfl List.mem_cons_self hS10 rfl (Nat.le_of_ble_eq_true rfl) (Nat.le_of_ble_eq_true rfl) rfl rfl hC15 ?_
            show px_Y mm_X_sure 56 [(0, .ref 0), (1, .int a1), (2, .int a2)] [.int q13] q7.2 _ _
            have h := Option.some.inj h
            subst h
            exact py_ir (pc := 56) (len := 1) (ty := .int) rfl rfl rfl hS10
          | false =>
            have h := cd_f hb12 h
            refine py_if (pc := 36) (len := 3) false rfl hb12 ?_
            refine py_its (pc := 39) (pc1 := 40) (lv1 := [(0, .ref 0), (1, .int a1), (2, .int a2)]) (st1 := [.ref 0]) 1 (fun _ _ _ _ => rfl) ?_
            refine py_g1 28 (pc := 40) (len := 3) (cs := [0]) rfl rfl rfl List.mem_cons_self hS10 ?_
            obtain ⟨q16, hq17, h⟩ := bd_e h
            have hC18 := (fx_Walk_whoAlwaysSit hS10 hq17).1
            refine py_vi (pc := 43) (mi := mi_Walk_whoAlwaysSit) (cs := [28]) (N := mm_Walk_whoAlwaysSit) rfl rfl rfl rfl List.mem_cons_self hS10 rfl (Nat.le_of_ble_eq_true rfl) (Nat.le_of_ble_eq_true rfl) rfl rfl hC18 ?_
            show px_Y mm_X_sure 46 [(0, .ref 0), (1, .int a1), (2, .int a2)] [.int q16] q7.2 _ _
            refine py_its (pc := 46) (pc1 := 56) (lv1 := [(0, .ref 0), (1, .int a1), (2, .int a2)]) (st1 := [.int q16]) 1 (fun _ _ _ _ => rfl) ?_
            have h := Option.some.inj h
            subst h
            exact py_ir (pc := 56) (len := 1) (ty := .int) rfl rfl rfl hS10
        | false =>
          have h := cd_f hb11 h
          refine py_if (pc := 29) (len := 3) false rfl hb11 ?_
          refine py_its (pc := 32) (pc1 := 34) (lv1 := [(0, .ref 0), (1, .int a1), (2, .int a2)]) (st1 := [.int (Int8.ofInt (-3)).toInt32]) 1 (fun _ _ _ _ => rfl) ?_
          have h := Option.some.inj h
          subst h
          exact py_ir (pc := 34) (len := 1) (ty := .int) rfl rfl rfl hS10
      | false =>
        have h := cd_f hb6 h
        refine py_ic (pc := 14) (len := 3) false rfl hb6 ?_
        refine py_its (pc := 17) (pc1 := 18) (lv1 := [(0, .ref 0), (1, .int a1), (2, .int a2)]) (st1 := [.int (Int32.ofInt (-1))]) 1 (fun _ _ _ _ => rfl) ?_
        have h := Option.some.inj h
        subst h
        exact py_ir (pc := 18) (len := 1) (ty := .int) rfl rfl rfl hS
/-! Walk_goOnWith -/
noncomputable def fb_Walk_goOnWith_L9 (v1 : Int32) (rc : Int32 → px_H → Option (px_H)) (v2 : Int32) (hp : px_H) : Option (px_H) :=
  bif px_cmp .ge v2 (gI hp (gR hp 28 2) 3) then
    sb (wF hp 28 2 (.ref (gR hp 28 1))) fun h12 =>
    sb (wF h12 28 1 (.ref (gR hp 28 2))) fun h14 =>
    some h14
  else
    (fn_Table_sittingAt (gR hp 28 2) v2 hp).bind fun q17 =>
    bif px_cmp .ne q17 v1 then
      rc (v2 + Int32.ofInt 1) hp
    else
      bif px_inR v2 3000 then
      bif px_inR v2 3000 then
      bif px_inR v2 3000 then
      (fn_Table_add (gR hp 28 1) (aL hp (gR hp (gR hp 28 2) 0) v2.toNatClampNeg) (aI hp (gR hp (gR hp 28 2) 1) v2.toNatClampNeg) (aL hp (gR hp (gR hp 28 2) 2) v2.toNatClampNeg) hp).bind fun q33 =>
      rc (v2 + Int32.ofInt 1) q33.2
      else none
      else none
      else none
noncomputable def fn_Walk_goOnWith_L9 (v1 : Int32) : Nat → Int32 → px_H → Option (px_H)
  | 0 => fun _ _ => none
  | n + 1 => fb_Walk_goOnWith_L9 v1 (fn_Walk_goOnWith_L9 v1 n)
theorem fl_Walk_goOnWith_L9 {v1 : Int32}  : ∀ (n : Nat) (v2 : Int32) (hp : px_H) (lv : List (Nat × Value)) (res : px_H), oS hp → lk lv [(0, .ref 28), (1, .int v1), (2, .int v2)] → fn_Walk_goOnWith_L9 v1 n v2 hp = some res → px_Y mm_Walk_goOnWith 9 lv [] hp none res := by
  intro n
  induction n with
  | zero =>
    intro v2 hp lv res hS hk h
    cases h
  | succ n ih =>
    intro v2 hp lv res hS hk h
    have h : fb_Walk_goOnWith_L9 v1 (fn_Walk_goOnWith_L9 v1 n) v2 hp = some res := h
    unfold fb_Walk_goOnWith_L9 at h
    refine py_iln (pc := 9) (len := 1) (j := 2) rfl hk rfl ?_
    refine py_aln (pc := 10) (len := 1) (j := 0) rfl hk rfl ?_
    refine py_gR [29, 35, 41] (pc := 11) (len := 3) (cs := [28]) rfl rfl rfl List.mem_cons_self hS (fun hm6 => ?_)
    refine py_gI (pc := 14) (len := 3) (cs := [29, 35, 41]) rfl rfl rfl hm6 hS ?_
    cases hb7 : px_cmp .ge v2 (gI hp (gR hp 28 2) 3) with
    | true =>
      have h := cd_t hb7 h
      refine py_ic (pc := 17) (len := 3) true rfl hb7 ?_
      refine py_aln (pc := 73) (len := 1) (j := 0) rfl hk rfl ?_
      refine py_gR [29, 35, 41] (pc := 74) (len := 3) (cs := [28]) rfl rfl rfl List.mem_cons_self hS (fun hm8 => ?_)
      refine py_san (pc := 77) (len := 1) (j := 2) rfl rfl hk (fun lv9 hk10 => ?_)
      have hk10 : lk lv9 [(2, .ref (gR hp 28 2)), (0, .ref 28), (1, .int v1)] := hk10
      refine py_aln (pc := 78) (len := 1) (j := 0) rfl hk10 rfl ?_
      refine py_aln (pc := 79) (len := 1) (j := 0) rfl hk10 rfl ?_
      refine py_gR [29, 35, 41] (pc := 80) (len := 3) (cs := [28]) rfl rfl rfl List.mem_cons_self hS (fun hm11 => ?_)
      have h := sb_e h
      refine py_pR (pc := 83) (len := 3) (cs := [28]) (ds := [29, 35, 41]) rfl rfl rfl List.mem_cons_self hS rfl rfl rfl rfl ?_
      have hS13 : oS (wF hp 28 2 (.ref (gR hp 28 1))) := oS_wRm (ci := 7) (cs := [29, 35, 41]) rfl hm11 hS
      generalize (wF hp 28 2 (.ref (gR hp 28 1))) = h12 at h hS13 ⊢
      refine py_aln (pc := 86) (len := 1) (j := 0) rfl hk10 rfl ?_
      refine py_aln (pc := 87) (len := 1) (j := 2) rfl hk10 rfl ?_
      have h := sb_e h
      refine py_pR (pc := 88) (len := 3) (cs := [28]) (ds := [29, 35, 41]) rfl rfl rfl List.mem_cons_self hS13 rfl rfl rfl rfl ?_
      have hS15 : oS (wF h12 28 1 (.ref (gR hp 28 2))) := oS_wRm (ci := 7) (cs := [29, 35, 41]) rfl hm8 hS13
      generalize (wF h12 28 1 (.ref (gR hp 28 2))) = h14 at h hS15 ⊢
      have h := Option.some.inj h
      subst h
      exact py_rt (pc := 91) (len := 1) rfl rfl hS15
    | false =>
      have h := cd_f hb7 h
      refine py_ic (pc := 17) (len := 3) false rfl hb7 ?_
      refine py_aln (pc := 20) (len := 1) (j := 0) rfl hk rfl ?_
      refine py_gR [29, 35, 41] (pc := 21) (len := 3) (cs := [28]) rfl rfl rfl List.mem_cons_self hS (fun hm16 => ?_)
      refine py_iln (pc := 24) (len := 1) (j := 2) rfl hk rfl ?_
      obtain ⟨q17, hq18, h⟩ := bd_e h
      have hC19 := (fx_Table_sittingAt hm16 hS hq18).1
      refine py_vi (pc := 25) (mi := mi_Table_sittingAt) (cs := [29, 35, 41]) (N := mm_Table_sittingAt) rfl rfl rfl rfl hm16 hS rfl (Nat.le_of_ble_eq_true rfl) (Nat.le_of_ble_eq_true rfl) rfl rfl hC19 ?_
      show px_Y mm_Walk_goOnWith 28 lv [.int q17] hp _ _
      refine py_iln (pc := 28) (len := 1) (j := 1) rfl hk rfl ?_
      cases hb20 : px_cmp .ne q17 v1 with
      | true =>
        have h := cd_t hb20 h
        refine py_ic (pc := 29) (len := 3) true rfl hb20 ?_
        refine py_inc (pc := 67) (len := 3) (j := 2) (n := 1) rfl rfl hk rfl (fun lv21 hk22 => ?_)
        have hk22 : lk lv21 [(2, .int (v2 + Int32.ofInt 1)), (0, .ref 28), (1, .int v1)] := hk22
        refine py_its (pc := 70) (pc1 := 9) (lv1 := lv21) (st1 := []) 1 (fun _ _ _ _ => rfl) ?_
        exact ih (v2 + Int32.ofInt 1) hp lv21 _ hS ⟨lk_find hk22 rfl, lk_find hk22 rfl, lk_find hk22 rfl, trivial⟩ h
      | false =>
        have h := cd_f hb20 h
        refine py_ic (pc := 29) (len := 3) false rfl hb20 ?_
        refine py_aln (pc := 32) (len := 1) (j := 0) rfl hk rfl ?_
        refine py_gR [29, 35, 41] (pc := 33) (len := 3) (cs := [28]) rfl rfl rfl List.mem_cons_self hS (fun hm23 => ?_)
        refine py_aln (pc := 36) (len := 1) (j := 0) rfl hk rfl ?_
        refine py_gR [29, 35, 41] (pc := 37) (len := 3) (cs := [28]) rfl rfl rfl List.mem_cons_self hS (fun hm24 => ?_)
        refine py_gR [30, 36, 42] (pc := 40) (len := 3) (cs := [29, 35, 41]) rfl rfl rfl hm24 hS (fun hm25 => ?_)
        refine py_iln (pc := 43) (len := 1) (j := 2) rfl hk rfl ?_
        obtain ⟨hi26, h⟩ := cd_n h
        refine py_al (pc := 44) (len := 1) (cs := [30, 36, 42]) (t := 6) (n := 3000) rfl rfl rfl hi26 hm25 hS ?_
        refine py_aln (pc := 45) (len := 1) (j := 0) rfl hk rfl ?_
        refine py_gR [29, 35, 41] (pc := 46) (len := 3) (cs := [28]) rfl rfl rfl List.mem_cons_self hS (fun hm27 => ?_)
        refine py_gR [31, 37, 43] (pc := 49) (len := 3) (cs := [29, 35, 41]) rfl rfl rfl hm27 hS (fun hm28 => ?_)
        refine py_iln (pc := 52) (len := 1) (j := 2) rfl hk rfl ?_
        obtain ⟨hi29, h⟩ := cd_n h
        refine py_ai (pc := 53) (len := 1) (cs := [31, 37, 43]) (t := 7) (n := 3000) rfl rfl rfl hi29 hm28 hS ?_
        refine py_aln (pc := 54) (len := 1) (j := 0) rfl hk rfl ?_
        refine py_gR [29, 35, 41] (pc := 55) (len := 3) (cs := [28]) rfl rfl rfl List.mem_cons_self hS (fun hm30 => ?_)
        refine py_gR [32, 38, 44] (pc := 58) (len := 3) (cs := [29, 35, 41]) rfl rfl rfl hm30 hS (fun hm31 => ?_)
        refine py_iln (pc := 61) (len := 1) (j := 2) rfl hk rfl ?_
        obtain ⟨hi32, h⟩ := cd_n h
        refine py_al (pc := 62) (len := 1) (cs := [32, 38, 44]) (t := 8) (n := 3000) rfl rfl rfl hi32 hm31 hS ?_
        obtain ⟨q33, hq34, h⟩ := bd_e h
        obtain ⟨hC35, hS36⟩ := fx_Table_add hm23 hS hq34
        refine py_vi (pc := 63) (mi := mi_Table_add) (cs := [29, 35, 41]) (N := mm_Table_add) rfl rfl rfl rfl hm23 hS rfl (Nat.le_of_ble_eq_true rfl) (Nat.le_of_ble_eq_true rfl) rfl rfl hC35 ?_
        show px_Y mm_Walk_goOnWith 66 lv [.int q33.1] q33.2 _ _
        refine py_its (pc := 66) (pc1 := 67) (lv1 := lv) (st1 := []) 1 (fun _ _ _ _ => rfl) ?_
        refine py_inc (pc := 67) (len := 3) (j := 2) (n := 1) rfl rfl hk rfl (fun lv37 hk38 => ?_)
        have hk38 : lk lv37 [(2, .int (v2 + Int32.ofInt 1)), (0, .ref 28), (1, .int v1)] := hk38
        refine py_its (pc := 70) (pc1 := 9) (lv1 := lv37) (st1 := []) 1 (fun _ _ _ _ => rfl) ?_
        exact ih (v2 + Int32.ofInt 1) q33.2 lv37 _ hS36 ⟨lk_find hk38 rfl, lk_find hk38 rfl, lk_find hk38 rfl, trivial⟩ h
noncomputable def fn_Walk_goOnWith (a1 : Int32) (hp : px_H) : Option (px_H) :=
  (fn_Table_clear (gR hp 28 1) hp).bind fun q2 =>
  fn_Walk_goOnWith_L9 a1 fu (Int32.ofInt 0) q2
theorem fx_Walk_goOnWith {a1 : Int32} {hp : px_H} {res : px_H} (hS : oS hp) (h : fn_Walk_goOnWith a1 hp = some res) : px_C nm_T nm_P mi_Walk_goOnWith [.ref 28, .int a1] hp none res ∧ oS res := by
  unfold fn_Walk_goOnWith at h
  refine py_C (M := mm_Walk_goOnWith) rfl (Nat.le_of_ble_eq_true rfl) ?_
  show px_Y mm_Walk_goOnWith 0 [(0, .ref 28), (1, .int a1)] [] hp _ _
  refine py_its (pc := 0) (pc1 := 1) (lv1 := [(0, .ref 28), (1, .int a1)]) (st1 := [.ref 28]) 1 (fun _ _ _ _ => rfl) ?_
  refine py_gR [29, 35, 41] (pc := 1) (len := 3) (cs := [28]) rfl rfl rfl List.mem_cons_self hS (fun hm1 => ?_)
  obtain ⟨q2, hq3, h⟩ := bd_e h
  obtain ⟨hC4, hS5⟩ := fx_Table_clear hm1 hS hq3
  refine py_vi (pc := 4) (mi := mi_Table_clear) (cs := [29, 35, 41]) (N := mm_Table_clear) rfl rfl rfl rfl hm1 hS rfl (Nat.le_of_ble_eq_true rfl) (Nat.le_of_ble_eq_true rfl) rfl rfl hC4 ?_
  show px_Y mm_Walk_goOnWith 7 [(0, .ref 28), (1, .int a1)] [] q2 _ _
  refine py_its (pc := 7) (pc1 := 9) (lv1 := [(2, .int (Int32.ofInt 0)), (0, .ref 28), (1, .int a1)]) (st1 := []) 2 (fun _ _ _ _ => rfl) ?_
  exact fl_Walk_goOnWith_L9 fu (Int32.ofInt 0) q2 [(2, .int (Int32.ofInt 0)), (0, .ref 28), (1, .int a1)] _ hS5 ⟨rfl, rfl, rfl, trivial⟩ h
/-! Walk_chanceOfAll -/
noncomputable def fb_Walk_chanceOfAll_L4 (hp : px_H) (rc : Int64 → Int32 → Option (Int64)) (v1 : Int64) (v3 : Int32) : Option (Int64) :=
  bif px_cmp .ge v3 (gI hp (gR hp 28 2) 3) then
    some v1
  else
    bif px_inR v3 3000 then
    rc (v1 + (aL hp (gR hp (gR hp 28 2) 2) v3.toNatClampNeg)) (v3 + Int32.ofInt 1)
    else none
noncomputable def fn_Walk_chanceOfAll_L4 (hp : px_H) : Nat → Int64 → Int32 → Option (Int64)
  | 0 => fun _ _ => none
  | n + 1 => fb_Walk_chanceOfAll_L4 hp (fn_Walk_chanceOfAll_L4 hp n)
theorem fl_Walk_chanceOfAll_L4 {hp : px_H}  : ∀ (n : Nat) (v1 : Int64) (v3 : Int32) (lv : List (Nat × Value)) (res : Int64), oS hp → lk lv [(0, .ref 28), (1, .long v1), (3, .int v3)] → fn_Walk_chanceOfAll_L4 hp n v1 v3 = some res → px_Y mm_Walk_chanceOfAll 4 lv [] hp (some (.long res)) hp := by
  intro n
  induction n with
  | zero =>
    intro v1 v3 lv res hS hk h
    cases h
  | succ n ih =>
    intro v1 v3 lv res hS hk h
    have h : fb_Walk_chanceOfAll_L4 hp (fn_Walk_chanceOfAll_L4 hp n) v1 v3 = some res := h
    unfold fb_Walk_chanceOfAll_L4 at h
    refine py_iln (pc := 4) (len := 1) (j := 3) rfl hk rfl ?_
    refine py_aln (pc := 5) (len := 1) (j := 0) rfl hk rfl ?_
    refine py_gR [29, 35, 41] (pc := 6) (len := 3) (cs := [28]) rfl rfl rfl List.mem_cons_self hS (fun hm1 => ?_)
    refine py_gI (pc := 9) (len := 3) (cs := [29, 35, 41]) rfl rfl rfl hm1 hS ?_
    cases hb2 : px_cmp .ge v3 (gI hp (gR hp 28 2) 3) with
    | true =>
      have h := cd_t hb2 h
      refine py_ic (pc := 12) (len := 3) true rfl hb2 ?_
      refine py_lln (pc := 33) (len := 1) (j := 1) rfl hk rfl ?_
      have h := Option.some.inj h
      subst h
      exact py_lr (pc := 34) (len := 1) rfl rfl hS
    | false =>
      have h := cd_f hb2 h
      refine py_ic (pc := 12) (len := 3) false rfl hb2 ?_
      refine py_lln (pc := 15) (len := 1) (j := 1) rfl hk rfl ?_
      refine py_aln (pc := 16) (len := 1) (j := 0) rfl hk rfl ?_
      refine py_gR [29, 35, 41] (pc := 17) (len := 3) (cs := [28]) rfl rfl rfl List.mem_cons_self hS (fun hm3 => ?_)
      refine py_gR [32, 38, 44] (pc := 20) (len := 3) (cs := [29, 35, 41]) rfl rfl rfl hm3 hS (fun hm4 => ?_)
      refine py_iln (pc := 23) (len := 1) (j := 3) rfl hk rfl ?_
      obtain ⟨hi5, h⟩ := cd_n h
      refine py_al (pc := 24) (len := 1) (cs := [32, 38, 44]) (t := 8) (n := 3000) rfl rfl rfl hi5 hm4 hS ?_
      refine py_its (pc := 25) (pc1 := 26) (lv1 := lv) (st1 := [.long (v1 + (aL hp (gR hp (gR hp 28 2) 2) v3.toNatClampNeg))]) 1 (fun _ _ _ _ => rfl) ?_
      refine py_sln (pc := 26) (len := 1) (j := 1) rfl rfl hk (fun lv6 hk7 => ?_)
      have hk7 : lk lv6 [(1, .long (v1 + (aL hp (gR hp (gR hp 28 2) 2) v3.toNatClampNeg))), (0, .ref 28), (3, .int v3)] := hk7
      refine py_inc (pc := 27) (len := 3) (j := 3) (n := 1) rfl rfl hk7 rfl (fun lv8 hk9 => ?_)
      have hk9 : lk lv8 [(3, .int (v3 + Int32.ofInt 1)), (1, .long (v1 + (aL hp (gR hp (gR hp 28 2) 2) v3.toNatClampNeg))), (0, .ref 28)] := hk9
      refine py_its (pc := 30) (pc1 := 4) (lv1 := lv8) (st1 := []) 1 (fun _ _ _ _ => rfl) ?_
      exact ih (v1 + (aL hp (gR hp (gR hp 28 2) 2) v3.toNatClampNeg)) (v3 + Int32.ofInt 1) lv8 _ hS ⟨lk_find hk9 rfl, lk_find hk9 rfl, lk_find hk9 rfl, trivial⟩ h
noncomputable def fn_Walk_chanceOfAll  (hp : px_H) : Option (Int64) :=
  fn_Walk_chanceOfAll_L4 hp fu (Int64.ofNat 0) (Int32.ofInt 0)
theorem fx_Walk_chanceOfAll  {hp : px_H} {res : Int64} (hS : oS hp) (h : fn_Walk_chanceOfAll hp = some res) : px_C nm_T nm_P mi_Walk_chanceOfAll [.ref 28] hp (some (.long res)) hp ∧ oS hp := by
  unfold fn_Walk_chanceOfAll at h
  refine py_C (M := mm_Walk_chanceOfAll) rfl (Nat.le_of_ble_eq_true rfl) ?_
  show px_Y mm_Walk_chanceOfAll 0 [(0, .ref 28)] [] hp _ _
  refine py_its (pc := 0) (pc1 := 4) (lv1 := [(3, .int (Int32.ofInt 0)), (1, .long (Int64.ofNat 0)), (0, .ref 28)]) (st1 := []) 4 (fun _ _ _ _ => rfl) ?_
  exact fl_Walk_chanceOfAll_L4 fu (Int64.ofNat 0) (Int32.ofInt 0) [(3, .int (Int32.ofInt 0)), (1, .long (Int64.ofNat 0)), (0, .ref 28)] _ hS ⟨rfl, rfl, rfl, trivial⟩ h
/-! X_sit -/
noncomputable def fn_X_sit (a1 : Int32) (a2 : Int32) (hp : px_H) : Option (Int32 × px_H) :=
  (fn_X_isAhead a1 hp).bind fun q1 =>
  bif px_cmp .eq q1 0 then
    some ((Int32.ofInt (-1)), hp)
  else
    (fn_Town_hasAll a2 hp).bind fun q5 =>
    bif px_cmp .ne q5 0 then
      (fn_X_walkBy 14 (Int32.ofInt 0) a1 hp).bind fun q9 =>
      bif px_cmp .ne q9.1 0 then
        (fn_Walk_goOnWith a2 q9.2).bind fun q14 =>
        (fn_Walk_chanceOfAll q14).bind fun q18 =>
        (fn_Row_tellOne q18 q14).bind fun q21 =>
        bif px_cmp .le (gI q21 (gR q21 28 2) 3) 0 then
          some ((Int32.ofInt 0), q21)
        else
          some ((Int32.ofInt 1), q21)
      else
        some ((Int8.ofInt (-3)).toInt32, q9.2)
    else
      some ((Int32.ofInt (-1)), hp)
theorem fx_X_sit {a1 : Int32} {a2 : Int32} {hp : px_H} {res : Int32 × px_H} (hS : oS hp) (h : fn_X_sit a1 a2 hp = some res) : px_C nm_T nm_P mi_X_sit [.ref 0, .int a1, .int a2] hp (some (.int res.1)) res.2 ∧ oS res.2 := by
  unfold fn_X_sit at h
  refine py_C (M := mm_X_sit) rfl (Nat.le_of_ble_eq_true rfl) ?_
  show px_Y mm_X_sit 0 [(0, .ref 0), (1, .int a1), (2, .int a2)] [] hp _ _
  refine py_its (pc := 0) (pc1 := 2) (lv1 := [(0, .ref 0), (1, .int a1), (2, .int a2)]) (st1 := [.int a1, .ref 0]) 2 (fun _ _ _ _ => rfl) ?_
  obtain ⟨q1, hq2, h⟩ := bd_e h
  have hC3 := (fx_X_isAhead hS hq2).1
  refine py_vi (pc := 2) (mi := mi_X_isAhead) (cs := [0]) (N := mm_X_isAhead) rfl rfl rfl rfl List.mem_cons_self hS rfl (Nat.le_of_ble_eq_true rfl) (Nat.le_of_ble_eq_true rfl) rfl rfl hC3 ?_
  show px_Y mm_X_sit 5 [(0, .ref 0), (1, .int a1), (2, .int a2)] [.int q1] hp _ _
  cases hb4 : px_cmp .eq q1 0 with
  | true =>
    have h := cd_t hb4 h
    refine py_if (pc := 5) (len := 3) true rfl hb4 ?_
    refine py_its (pc := 19) (pc1 := 20) (lv1 := [(0, .ref 0), (1, .int a1), (2, .int a2)]) (st1 := [.int (Int32.ofInt (-1))]) 1 (fun _ _ _ _ => rfl) ?_
    have h := Option.some.inj h
    subst h
    exact py_ir (pc := 20) (len := 1) (ty := .int) rfl rfl rfl hS
  | false =>
    have h := cd_f hb4 h
    refine py_if (pc := 5) (len := 3) false rfl hb4 ?_
    refine py_its (pc := 8) (pc1 := 9) (lv1 := [(0, .ref 0), (1, .int a1), (2, .int a2)]) (st1 := [.ref 0]) 1 (fun _ _ _ _ => rfl) ?_
    refine py_g1 1 (pc := 9) (len := 3) (cs := [0]) rfl rfl rfl List.mem_cons_self hS ?_
    refine py_its (pc := 12) (pc1 := 13) (lv1 := [(0, .ref 0), (1, .int a1), (2, .int a2)]) (st1 := [.int a2, .ref 1]) 1 (fun _ _ _ _ => rfl) ?_
    obtain ⟨q5, hq6, h⟩ := bd_e h
    have hC7 := (fx_Town_hasAll hS hq6).1
    refine py_vi (pc := 13) (mi := mi_Town_hasAll) (cs := [1]) (N := mm_Town_hasAll) rfl rfl rfl rfl List.mem_cons_self hS rfl (Nat.le_of_ble_eq_true rfl) (Nat.le_of_ble_eq_true rfl) rfl rfl hC7 ?_
    show px_Y mm_X_sit 16 [(0, .ref 0), (1, .int a1), (2, .int a2)] [.int q5] hp _ _
    cases hb8 : px_cmp .ne q5 0 with
    | true =>
      have h := cd_t hb8 h
      refine py_if (pc := 16) (len := 3) true rfl hb8 ?_
      refine py_its (pc := 21) (pc1 := 23) (lv1 := [(0, .ref 0), (1, .int a1), (2, .int a2)]) (st1 := [.ref 0, .ref 0]) 2 (fun _ _ _ _ => rfl) ?_
      refine py_g1 14 (pc := 23) (len := 3) (cs := [0]) rfl rfl rfl List.mem_cons_self hS ?_
      refine py_its (pc := 26) (pc1 := 28) (lv1 := [(0, .ref 0), (1, .int a1), (2, .int a2)]) (st1 := [.int a1, .int (Int32.ofInt 0), .ref 14, .ref 0]) 2 (fun _ _ _ _ => rfl) ?_
      obtain ⟨q9, hq10, h⟩ := bd_e h
      obtain ⟨hC11, hS12⟩ := fx_X_walkBy (List.mem_of_elem_eq_true rfl) hS hq10
      refine py_vi (pc := 28) (mi := mi_X_walkBy) (cs := [0]) (N := mm_X_walkBy) rfl rfl rfl rfl List.mem_cons_self hS rfl (Nat.le_of_ble_eq_true rfl) (Nat.le_of_ble_eq_true rfl) rfl rfl hC11 ?_
      show px_Y mm_X_sit 31 [(0, .ref 0), (1, .int a1), (2, .int a2)] [.int q9.1] q9.2 _ _
      cases hb13 : px_cmp .ne q9.1 0 with
      | true =>
        have h := cd_t hb13 h
        refine py_if (pc := 31) (len := 3) true rfl hb13 ?_
        refine py_its (pc := 37) (pc1 := 38) (lv1 := [(0, .ref 0), (1, .int a1), (2, .int a2)]) (st1 := [.ref 0]) 1 (fun _ _ _ _ => rfl) ?_
        refine py_g1 28 (pc := 38) (len := 3) (cs := [0]) rfl rfl rfl List.mem_cons_self hS12 ?_
        refine py_its (pc := 41) (pc1 := 42) (lv1 := [(0, .ref 0), (1, .int a1), (2, .int a2)]) (st1 := [.int a2, .ref 28]) 1 (fun _ _ _ _ => rfl) ?_
        obtain ⟨q14, hq15, h⟩ := bd_e h
        obtain ⟨hC16, hS17⟩ := fx_Walk_goOnWith hS12 hq15
        refine py_vi (pc := 42) (mi := mi_Walk_goOnWith) (cs := [28]) (N := mm_Walk_goOnWith) rfl rfl rfl rfl List.mem_cons_self hS12 rfl (Nat.le_of_ble_eq_true rfl) (Nat.le_of_ble_eq_true rfl) rfl rfl hC16 ?_
        show px_Y mm_X_sit 45 [(0, .ref 0), (1, .int a1), (2, .int a2)] [] q14 _ _
        refine py_its (pc := 45) (pc1 := 46) (lv1 := [(0, .ref 0), (1, .int a1), (2, .int a2)]) (st1 := [.ref 0]) 1 (fun _ _ _ _ => rfl) ?_
        refine py_g1 48 (pc := 46) (len := 3) (cs := [0]) rfl rfl rfl List.mem_cons_self hS17 ?_
        refine py_its (pc := 49) (pc1 := 50) (lv1 := [(0, .ref 0), (1, .int a1), (2, .int a2)]) (st1 := [.ref 0, .ref 48]) 1 (fun _ _ _ _ => rfl) ?_
        refine py_g1 28 (pc := 50) (len := 3) (cs := [0]) rfl rfl rfl List.mem_cons_self hS17 ?_
        obtain ⟨q18, hq19, h⟩ := bd_e h
        have hC20 := (fx_Walk_chanceOfAll hS17 hq19).1
        refine py_vi (pc := 53) (mi := mi_Walk_chanceOfAll) (cs := [28]) (N := mm_Walk_chanceOfAll) rfl rfl rfl rfl List.mem_cons_self hS17 rfl (Nat.le_of_ble_eq_true rfl) (Nat.le_of_ble_eq_true rfl) rfl rfl hC20 ?_
        show px_Y mm_X_sit 56 [(0, .ref 0), (1, .int a1), (2, .int a2)] [.long q18, .ref 48] q14 _ _
        obtain ⟨q21, hq22, h⟩ := bd_e h
        obtain ⟨hC23, hS24⟩ := fx_Row_tellOne hS17 hq22
        refine py_vi (pc := 56) (mi := mi_Row_tellOne) (cs := [48]) (N := mm_Row_tellOne) rfl rfl rfl rfl List.mem_cons_self hS17 rfl (Nat.le_of_ble_eq_true rfl) (Nat.le_of_ble_eq_true rfl) rfl rfl hC23 ?_
        show px_Y mm_X_sit 59 [(0, .ref 0), (1, .int a1), (2, .int a2)] [] q21 _ _
        refine py_its (pc := 59) (pc1 := 60) (lv1 := [(0, .ref 0), (1, .int a1), (2, .int a2)]) (st1 := [.ref 0]) 1 (fun _ _ _ _ => rfl) ?_
        refine py_g1 28 (pc := 60) (len := 3) (cs := [0]) rfl rfl rfl List.mem_cons_self hS24 ?_
        refine py_gR [29, 35, 41] (pc := 63) (len := 3) (cs := [28]) rfl rfl rfl List.mem_cons_self hS24 (fun hm25 => ?_)
        refine py_gI (pc := 66) (len := 3) (cs := [29, 35, 41]) rfl rfl rfl hm25 hS24 ?_
        cases hb26 : px_cmp .le (gI q21 (gR q21 28 2) 3) 0 with
        | true =>
          have h := cd_t hb26 h
          refine py_if (pc := 69) (len := 3) true rfl hb26 ?_
          refine py_its (pc := 76) (pc1 := 77) (lv1 := [(0, .ref 0), (1, .int a1), (2, .int a2)]) (st1 := [.int (Int32.ofInt 0)]) 1 (fun _ _ _ _ => rfl) ?_
          have h := Option.some.inj h
          subst h
          exact py_ir (pc := 77) (len := 1) (ty := .int) rfl rfl rfl hS24
        | false =>
          have h := cd_f hb26 h
          refine py_if (pc := 69) (len := 3) false rfl hb26 ?_
          refine py_its (pc := 72) (pc1 := 77) (lv1 := [(0, .ref 0), (1, .int a1), (2, .int a2)]) (st1 := [.int (Int32.ofInt 1)]) 2 (fun _ _ _ _ => rfl) ?_
          have h := Option.some.inj h
          subst h
          exact py_ir (pc := 77) (len := 1) (ty := .int) rfl rfl rfl hS24
      | false =>
        have h := cd_f hb13 h
        refine py_if (pc := 31) (len := 3) false rfl hb13 ?_
        refine py_its (pc := 34) (pc1 := 36) (lv1 := [(0, .ref 0), (1, .int a1), (2, .int a2)]) (st1 := [.int (Int8.ofInt (-3)).toInt32]) 1 (fun _ _ _ _ => rfl) ?_
        have h := Option.some.inj h
        subst h
        exact py_ir (pc := 36) (len := 1) (ty := .int) rfl rfl rfl hS12
    | false =>
      have h := cd_f hb8 h
      refine py_if (pc := 16) (len := 3) false rfl hb8 ?_
      refine py_its (pc := 19) (pc1 := 20) (lv1 := [(0, .ref 0), (1, .int a1), (2, .int a2)]) (st1 := [.int (Int32.ofInt (-1))]) 1 (fun _ _ _ _ => rfl) ?_
      have h := Option.some.inj h
      subst h
      exact py_ir (pc := 20) (len := 1) (ty := .int) rfl rfl rfl hS
/-! X_known -/
noncomputable def fb_X_known_L58  (rc : Int32 → px_H → Option (Int32 × px_H)) (v1 : Int32) (hp : px_H) : Option (Int32 × px_H) :=
  bif px_cmp .ge v1 (gI hp 1 8) then
    some ((Int8.ofInt (-2)).toInt32, hp)
  else
    (fn_Walk_pass v1 hp).bind fun q14 =>
    bif px_cmp .ne q14.1 0 then
      (fn_Walk_whoAlwaysSit q14.2).bind fun q19 =>
      bif px_cmp .eq q19 0 then
        rc (v1 + Int32.ofInt 1) q14.2
      else
        (fn_Row_tellOne q19.toInt64 q14.2).bind fun q27 =>
        some (v1, q27)
    else
      some ((Int8.ofInt (-3)).toInt32, q14.2)
noncomputable def fn_X_known_L58  : Nat → Int32 → px_H → Option (Int32 × px_H)
  | 0 => fun _ _ => none
  | n + 1 => fb_X_known_L58  (fn_X_known_L58  n)
theorem fl_X_known_L58   : ∀ (n : Nat) (v1 : Int32) (hp : px_H) (lv : List (Nat × Value)) (res : Int32 × px_H), oS hp → lk lv [(0, .ref 0), (1, .int v1)] → fn_X_known_L58  n v1 hp = some res → px_Y mm_X_known 58 lv [] hp (some (.int res.1)) res.2 := by
  intro n
  induction n with
  | zero =>
    intro v1 hp lv res hS hk h
    cases h
  | succ n ih =>
    intro v1 hp lv res hS hk h
    have h : fb_X_known_L58  (fn_X_known_L58  n) v1 hp = some res := h
    unfold fb_X_known_L58 at h
    refine py_iln (pc := 58) (len := 1) (j := 1) rfl hk rfl ?_
    refine py_aln (pc := 59) (len := 1) (j := 0) rfl hk rfl ?_
    refine py_g1 1 (pc := 60) (len := 3) (cs := [0]) rfl rfl rfl List.mem_cons_self hS ?_
    refine py_gI (pc := 63) (len := 3) (cs := [1]) rfl rfl rfl List.mem_cons_self hS ?_
    cases hb13 : px_cmp .ge v1 (gI hp 1 8) with
    | true =>
      have h := cd_t hb13 h
      refine py_ic (pc := 66) (len := 3) true rfl hb13 ?_
      refine py_its (pc := 116) (pc1 := 118) (lv1 := lv) (st1 := [.int (Int8.ofInt (-2)).toInt32]) 1 (fun _ _ _ _ => rfl) ?_
      have h := Option.some.inj h
      subst h
      exact py_ir (pc := 118) (len := 1) (ty := .int) rfl rfl rfl hS
    | false =>
      have h := cd_f hb13 h
      refine py_ic (pc := 66) (len := 3) false rfl hb13 ?_
      refine py_aln (pc := 69) (len := 1) (j := 0) rfl hk rfl ?_
      refine py_g1 28 (pc := 70) (len := 3) (cs := [0]) rfl rfl rfl List.mem_cons_self hS ?_
      refine py_aln (pc := 73) (len := 1) (j := 0) rfl hk rfl ?_
      refine py_g1 21 (pc := 74) (len := 3) (cs := [0]) rfl rfl rfl List.mem_cons_self hS ?_
      refine py_iln (pc := 77) (len := 1) (j := 1) rfl hk rfl ?_
      obtain ⟨q14, hq15, h⟩ := bd_e h
      obtain ⟨hC16, hS17⟩ := fx_Walk_pass hS hq15
      refine py_vi (pc := 78) (mi := mi_Walk_pass) (cs := [28]) (N := mm_Walk_pass) rfl rfl rfl rfl List.mem_cons_self hS rfl (Nat.le_of_ble_eq_true rfl) (Nat.le_of_ble_eq_true rfl) rfl rfl hC16 ?_
      show px_Y mm_X_known 81 lv [.int q14.1] q14.2 _ _
      cases hb18 : px_cmp .ne q14.1 0 with
      | true =>
        have h := cd_t hb18 h
        refine py_if (pc := 81) (len := 3) true rfl hb18 ?_
        refine py_aln (pc := 87) (len := 1) (j := 0) rfl hk rfl ?_
        refine py_g1 28 (pc := 88) (len := 3) (cs := [0]) rfl rfl rfl List.mem_cons_self hS17 ?_
        obtain ⟨q19, hq20, h⟩ := bd_e h
        have hC21 := (fx_Walk_whoAlwaysSit hS17 hq20).1
        refine py_vi (pc := 91) (mi := mi_Walk_whoAlwaysSit) (cs := [28]) (N := mm_Walk_whoAlwaysSit) rfl rfl rfl rfl List.mem_cons_self hS17 rfl (Nat.le_of_ble_eq_true rfl) (Nat.le_of_ble_eq_true rfl) rfl rfl hC21 ?_
        show px_Y mm_X_known 94 lv [.int q19] q14.2 _ _
        refine py_sin (pc := 94) (len := 1) (j := 2) rfl rfl hk (fun lv22 hk23 => ?_)
        have hk23 : lk lv22 [(2, .int q19), (0, .ref 0), (1, .int v1)] := hk23
        refine py_iln (pc := 95) (len := 1) (j := 2) rfl hk23 rfl ?_
        cases hb24 : px_cmp .eq q19 0 with
        | true =>
          have h := cd_t hb24 h
          refine py_if (pc := 96) (len := 3) true rfl hb24 ?_
          refine py_inc (pc := 110) (len := 3) (j := 1) (n := 1) rfl rfl hk23 rfl (fun lv25 hk26 => ?_)
          have hk26 : lk lv25 [(1, .int (v1 + Int32.ofInt 1)), (2, .int q19), (0, .ref 0)] := hk26
          refine py_its (pc := 113) (pc1 := 58) (lv1 := lv25) (st1 := []) 1 (fun _ _ _ _ => rfl) ?_
          exact ih (v1 + Int32.ofInt 1) q14.2 lv25 _ hS17 ⟨lk_find hk26 rfl, lk_find hk26 rfl, trivial⟩ h
        | false =>
          have h := cd_f hb24 h
          refine py_if (pc := 96) (len := 3) false rfl hb24 ?_
          refine py_aln (pc := 99) (len := 1) (j := 0) rfl hk23 rfl ?_
          refine py_g1 48 (pc := 100) (len := 3) (cs := [0]) rfl rfl rfl List.mem_cons_self hS17 ?_
          refine py_iln (pc := 103) (len := 1) (j := 2) rfl hk23 rfl ?_
          refine py_its (pc := 104) (pc1 := 105) (lv1 := lv22) (st1 := [.long q19.toInt64, .ref 48]) 1 (fun _ _ _ _ => rfl) ?_
          obtain ⟨q27, hq28, h⟩ := bd_e h
          obtain ⟨hC29, hS30⟩ := fx_Row_tellOne hS17 hq28
          refine py_vi (pc := 105) (mi := mi_Row_tellOne) (cs := [48]) (N := mm_Row_tellOne) rfl rfl rfl rfl List.mem_cons_self hS17 rfl (Nat.le_of_ble_eq_true rfl) (Nat.le_of_ble_eq_true rfl) rfl rfl hC29 ?_
          show px_Y mm_X_known 108 lv22 [] q27 _ _
          refine py_iln (pc := 108) (len := 1) (j := 1) rfl hk23 rfl ?_
          have h := Option.some.inj h
          subst h
          exact py_ir (pc := 109) (len := 1) (ty := .int) rfl rfl rfl hS30
      | false =>
        have h := cd_f hb18 h
        refine py_if (pc := 81) (len := 3) false rfl hb18 ?_
        refine py_its (pc := 84) (pc1 := 86) (lv1 := lv) (st1 := [.int (Int8.ofInt (-3)).toInt32]) 1 (fun _ _ _ _ => rfl) ?_
        have h := Option.some.inj h
        subst h
        exact py_ir (pc := 86) (len := 1) (ty := .int) rfl rfl rfl hS17
noncomputable def fn_X_known  (hp : px_H) : Option (Int32 × px_H) :=
  (fn_X_isDrawingLeft hp).bind fun q1 =>
  bif px_cmp .ne q1 0 then
    (fn_Course_set 14 (aI hp 7 (Int32.ofInt 0).toNatClampNeg) (aI hp 7 (Int32.ofInt 1).toNatClampNeg) (Int32.ofInt 0) hp).bind fun q5 =>
    (fn_Walk_start 19 q5).bind fun q9 =>
    fn_X_known_L58 fu (gI q9 19 2) q9
  else
    some ((Int32.ofInt (-1)), hp)
theorem fx_X_known  {hp : px_H} {res : Int32 × px_H} (hS : oS hp) (h : fn_X_known hp = some res) : px_C nm_T nm_P mi_X_known [.ref 0] hp (some (.int res.1)) res.2 ∧ oS res.2 := by
  unfold fn_X_known at h
  refine py_C (M := mm_X_known) rfl (Nat.le_of_ble_eq_true rfl) ?_
  show px_Y mm_X_known 0 [(0, .ref 0)] [] hp _ _
  refine py_its (pc := 0) (pc1 := 1) (lv1 := [(0, .ref 0)]) (st1 := [.ref 0]) 1 (fun _ _ _ _ => rfl) ?_
  obtain ⟨q1, hq2, h⟩ := bd_e h
  have hC3 := (fx_X_isDrawingLeft hS hq2).1
  refine py_vi (pc := 1) (mi := mi_X_isDrawingLeft) (cs := [0]) (N := mm_X_isDrawingLeft) rfl rfl rfl rfl List.mem_cons_self hS rfl (Nat.le_of_ble_eq_true rfl) (Nat.le_of_ble_eq_true rfl) rfl rfl hC3 ?_
  show px_Y mm_X_known 4 [(0, .ref 0)] [.int q1] hp _ _
  cases hb4 : px_cmp .ne q1 0 with
  | true =>
    have h := cd_t hb4 h
    refine py_if (pc := 4) (len := 3) true rfl hb4 ?_
    refine py_its (pc := 9) (pc1 := 10) (lv1 := [(0, .ref 0)]) (st1 := [.ref 0]) 1 (fun _ _ _ _ => rfl) ?_
    refine py_g1 21 (pc := 10) (len := 3) (cs := [0]) rfl rfl rfl List.mem_cons_self hS ?_
    refine py_its (pc := 13) (pc1 := 14) (lv1 := [(0, .ref 0)]) (st1 := [.ref 0, .ref 21]) 1 (fun _ _ _ _ => rfl) ?_
    refine py_g1 14 (pc := 14) (len := 3) (cs := [0]) rfl rfl rfl List.mem_cons_self hS ?_
    refine py_its (pc := 17) (pc1 := 18) (lv1 := [(0, .ref 0)]) (st1 := [.ref 0, .ref 14, .ref 21]) 1 (fun _ _ _ _ => rfl) ?_
    refine py_g1 1 (pc := 18) (len := 3) (cs := [0]) rfl rfl rfl List.mem_cons_self hS ?_
    refine py_g1 7 (pc := 21) (len := 3) (cs := [1]) rfl rfl rfl List.mem_cons_self hS ?_
    refine py_its (pc := 24) (pc1 := 25) (lv1 := [(0, .ref 0)]) (st1 := [.int (Int32.ofInt 0), .ref 7, .ref 14, .ref 21]) 1 (fun _ _ _ _ => rfl) ?_
    refine py_ai (pc := 25) (len := 1) (cs := [7]) (t := 17) (n := 2) rfl rfl rfl rfl List.mem_cons_self hS ?_
    refine py_its (pc := 26) (pc1 := 27) (lv1 := [(0, .ref 0)]) (st1 := [.ref 0, .int (aI hp 7 (Int32.ofInt 0).toNatClampNeg), .ref 14, .ref 21]) 1 (fun _ _ _ _ => rfl) ?_
    refine py_g1 1 (pc := 27) (len := 3) (cs := [0]) rfl rfl rfl List.mem_cons_self hS ?_
    refine py_g1 7 (pc := 30) (len := 3) (cs := [1]) rfl rfl rfl List.mem_cons_self hS ?_
    refine py_its (pc := 33) (pc1 := 34) (lv1 := [(0, .ref 0)]) (st1 := [.int (Int32.ofInt 1), .ref 7, .int (aI hp 7 (Int32.ofInt 0).toNatClampNeg), .ref 14, .ref 21]) 1 (fun _ _ _ _ => rfl) ?_
    refine py_ai (pc := 34) (len := 1) (cs := [7]) (t := 17) (n := 2) rfl rfl rfl rfl List.mem_cons_self hS ?_
    refine py_its (pc := 35) (pc1 := 36) (lv1 := [(0, .ref 0)]) (st1 := [.int (Int32.ofInt 0), .int (aI hp 7 (Int32.ofInt 1).toNatClampNeg), .int (aI hp 7 (Int32.ofInt 0).toNatClampNeg), .ref 14, .ref 21]) 1 (fun _ _ _ _ => rfl) ?_
    obtain ⟨q5, hq6, h⟩ := bd_e h
    obtain ⟨hC7, hS8⟩ := fx_Course_set (List.mem_of_elem_eq_true rfl) hS hq6
    refine py_vi (pc := 36) (mi := mi_Course_set) (cs := [21]) (N := mm_Course_set) rfl rfl rfl rfl List.mem_cons_self hS rfl (Nat.le_of_ble_eq_true rfl) (Nat.le_of_ble_eq_true rfl) rfl rfl hC7 ?_
    show px_Y mm_X_known 39 [(0, .ref 0)] [] q5 _ _
    refine py_its (pc := 39) (pc1 := 40) (lv1 := [(0, .ref 0)]) (st1 := [.ref 0]) 1 (fun _ _ _ _ => rfl) ?_
    refine py_g1 28 (pc := 40) (len := 3) (cs := [0]) rfl rfl rfl List.mem_cons_self hS8 ?_
    refine py_its (pc := 43) (pc1 := 44) (lv1 := [(0, .ref 0)]) (st1 := [.ref 0, .ref 28]) 1 (fun _ _ _ _ => rfl) ?_
    refine py_g1 19 (pc := 44) (len := 3) (cs := [0]) rfl rfl rfl List.mem_cons_self hS8 ?_
    obtain ⟨q9, hq10, h⟩ := bd_e h
    obtain ⟨hC11, hS12⟩ := fx_Walk_start (List.mem_of_elem_eq_true rfl) hS8 hq10
    refine py_vi (pc := 47) (mi := mi_Walk_start) (cs := [28]) (N := mm_Walk_start) rfl rfl rfl rfl List.mem_cons_self hS8 rfl (Nat.le_of_ble_eq_true rfl) (Nat.le_of_ble_eq_true rfl) rfl rfl hC11 ?_
    show px_Y mm_X_known 50 [(0, .ref 0)] [] q9 _ _
    refine py_its (pc := 50) (pc1 := 51) (lv1 := [(0, .ref 0)]) (st1 := [.ref 0]) 1 (fun _ _ _ _ => rfl) ?_
    refine py_g1 19 (pc := 51) (len := 3) (cs := [0]) rfl rfl rfl List.mem_cons_self hS12 ?_
    refine py_gI (pc := 54) (len := 3) (cs := [19]) rfl rfl rfl List.mem_cons_self hS12 ?_
    refine py_its (pc := 57) (pc1 := 58) (lv1 := [(1, .int (gI q9 19 2)), (0, .ref 0)]) (st1 := []) 1 (fun _ _ _ _ => rfl) ?_
    exact fl_X_known_L58 fu (gI q9 19 2) q9 [(1, .int (gI q9 19 2)), (0, .ref 0)] _ hS12 ⟨rfl, rfl, trivial⟩ h
  | false =>
    have h := cd_f hb4 h
    refine py_if (pc := 4) (len := 3) false rfl hb4 ?_
    refine py_its (pc := 7) (pc1 := 8) (lv1 := [(0, .ref 0)]) (st1 := [.int (Int32.ofInt (-1))]) 1 (fun _ _ _ _ => rfl) ?_
    have h := Option.some.inj h
    subst h
    exact py_ir (pc := 8) (len := 1) (ty := .int) rfl rfl rfl hS
/-! X_canPack -/
noncomputable def fn_X_canPack (a1 : Int32) (a2 : Int32) (hp : px_H) : Option (Int32) :=
  (fn_X_isBag a1 hp).bind fun q1 =>
  bif px_cmp .eq q1 0 then
    some (Int32.ofInt 0)
  else
    (fn_Town_hasAll a2 hp).bind fun q5 =>
    bif px_cmp .eq q5 0 then
      some (Int32.ofInt 0)
    else
      bif px_cmp .gt (nm_bc a2) (Int8.ofInt 6).toInt32 then
        some (Int32.ofInt 0)
      else
        some (Int32.ofInt 1)
theorem fx_X_canPack {a1 : Int32} {a2 : Int32} {hp : px_H} {res : Int32} (hS : oS hp) (h : fn_X_canPack a1 a2 hp = some res) : px_C nm_T nm_P mi_X_canPack [.ref 0, .int a1, .int a2] hp (some (.int res)) hp ∧ oS hp := by
  unfold fn_X_canPack at h
  refine py_C (M := mm_X_canPack) rfl (Nat.le_of_ble_eq_true rfl) ?_
  show px_Y mm_X_canPack 0 [(0, .ref 0), (1, .int a1), (2, .int a2)] [] hp _ _
  refine py_its (pc := 0) (pc1 := 1) (lv1 := [(0, .ref 0), (1, .int a1), (2, .int a2)]) (st1 := [.int a1]) 1 (fun _ _ _ _ => rfl) ?_
  obtain ⟨q1, hq2, h⟩ := bd_e h
  have hC3 := (fx_X_isBag hS hq2).1
  refine py_st (pc := 1) (mi := mi_X_isBag) (N := mm_X_isBag) rfl rfl rfl (Nat.le_of_ble_eq_true rfl) (Nat.le_of_ble_eq_true rfl) rfl rfl hC3 ?_
  show px_Y mm_X_canPack 4 [(0, .ref 0), (1, .int a1), (2, .int a2)] [.int q1] hp _ _
  cases hb4 : px_cmp .eq q1 0 with
  | true =>
    have h := cd_t hb4 h
    refine py_if (pc := 4) (len := 3) true rfl hb4 ?_
    refine py_its (pc := 31) (pc1 := 32) (lv1 := [(0, .ref 0), (1, .int a1), (2, .int a2)]) (st1 := [.int (Int32.ofInt 0)]) 1 (fun _ _ _ _ => rfl) ?_
    have h := Option.some.inj h
    subst h
    exact py_ir (pc := 32) (len := 1) (ty := .boolean) rfl rfl (by decide) hS
  | false =>
    have h := cd_f hb4 h
    refine py_if (pc := 4) (len := 3) false rfl hb4 ?_
    refine py_its (pc := 7) (pc1 := 8) (lv1 := [(0, .ref 0), (1, .int a1), (2, .int a2)]) (st1 := [.ref 0]) 1 (fun _ _ _ _ => rfl) ?_
    refine py_g1 1 (pc := 8) (len := 3) (cs := [0]) rfl rfl rfl List.mem_cons_self hS ?_
    refine py_its (pc := 11) (pc1 := 12) (lv1 := [(0, .ref 0), (1, .int a1), (2, .int a2)]) (st1 := [.int a2, .ref 1]) 1 (fun _ _ _ _ => rfl) ?_
    obtain ⟨q5, hq6, h⟩ := bd_e h
    have hC7 := (fx_Town_hasAll hS hq6).1
    refine py_vi (pc := 12) (mi := mi_Town_hasAll) (cs := [1]) (N := mm_Town_hasAll) rfl rfl rfl rfl List.mem_cons_self hS rfl (Nat.le_of_ble_eq_true rfl) (Nat.le_of_ble_eq_true rfl) rfl rfl hC7 ?_
    show px_Y mm_X_canPack 15 [(0, .ref 0), (1, .int a1), (2, .int a2)] [.int q5] hp _ _
    cases hb8 : px_cmp .eq q5 0 with
    | true =>
      have h := cd_t hb8 h
      refine py_if (pc := 15) (len := 3) true rfl hb8 ?_
      refine py_its (pc := 31) (pc1 := 32) (lv1 := [(0, .ref 0), (1, .int a1), (2, .int a2)]) (st1 := [.int (Int32.ofInt 0)]) 1 (fun _ _ _ _ => rfl) ?_
      have h := Option.some.inj h
      subst h
      exact py_ir (pc := 32) (len := 1) (ty := .boolean) rfl rfl (by decide) hS
    | false =>
      have h := cd_f hb8 h
      refine py_if (pc := 15) (len := 3) false rfl hb8 ?_
      refine py_its (pc := 18) (pc1 := 19) (lv1 := [(0, .ref 0), (1, .int a1), (2, .int a2)]) (st1 := [.int a2]) 1 (fun _ _ _ _ => rfl) ?_
      refine py_st (pc := 19) (mi := mi_I_bitCount) (N := mm_I_bitCount) rfl rfl rfl (Nat.le_of_ble_eq_true rfl) (Nat.le_of_ble_eq_true rfl) rfl rfl (nm_bc_C a2 hp) ?_
      show px_Y mm_X_canPack 22 [(0, .ref 0), (1, .int a1), (2, .int a2)] [.int (nm_bc a2)] hp _ _
      refine py_its (pc := 22) (pc1 := 24) (lv1 := [(0, .ref 0), (1, .int a1), (2, .int a2)]) (st1 := [.int (Int8.ofInt 6).toInt32, .int (nm_bc a2)]) 1 (fun _ _ _ _ => rfl) ?_
      cases hb9 : px_cmp .gt (nm_bc a2) (Int8.ofInt 6).toInt32 with
      | true =>
        have h := cd_t hb9 h
        refine py_ic (pc := 24) (len := 3) true rfl hb9 ?_
        refine py_its (pc := 31) (pc1 := 32) (lv1 := [(0, .ref 0), (1, .int a1), (2, .int a2)]) (st1 := [.int (Int32.ofInt 0)]) 1 (fun _ _ _ _ => rfl) ?_
        have h := Option.some.inj h
        subst h
        exact py_ir (pc := 32) (len := 1) (ty := .boolean) rfl rfl (by decide) hS
      | false =>
        have h := cd_f hb9 h
        refine py_ic (pc := 24) (len := 3) false rfl hb9 ?_
        refine py_its (pc := 27) (pc1 := 32) (lv1 := [(0, .ref 0), (1, .int a1), (2, .int a2)]) (st1 := [.int (Int32.ofInt 1)]) 2 (fun _ _ _ _ => rfl) ?_
        have h := Option.some.inj h
        subst h
        exact py_ir (pc := 32) (len := 1) (ty := .boolean) rfl rfl (by decide) hS
/-! X_fullestWay -/
noncomputable def fn_X_fullestWay (a0 : Int32) (hp : px_H) : Option (Int32) :=
  some (((Int32.ofInt 1) <<< ((nm_bc a0) &&& 31)) - (Int32.ofInt 1))
theorem fx_X_fullestWay {a0 : Int32} {hp : px_H} {res : Int32} (hS : oS hp) (h : fn_X_fullestWay a0 hp = some res) : px_C nm_T nm_P mi_X_fullestWay [.int a0] hp (some (.int res)) hp ∧ oS hp := by
  unfold fn_X_fullestWay at h
  refine py_C (M := mm_X_fullestWay) rfl (Nat.le_of_ble_eq_true rfl) ?_
  show px_Y mm_X_fullestWay 0 [(0, .int a0)] [] hp _ _
  refine py_its (pc := 0) (pc1 := 2) (lv1 := [(0, .int a0)]) (st1 := [.int a0, .int (Int32.ofInt 1)]) 2 (fun _ _ _ _ => rfl) ?_
  refine py_st (pc := 2) (mi := mi_I_bitCount) (N := mm_I_bitCount) rfl rfl rfl (Nat.le_of_ble_eq_true rfl) (Nat.le_of_ble_eq_true rfl) rfl rfl (nm_bc_C a0 hp) ?_
  show px_Y mm_X_fullestWay 5 [(0, .int a0)] [.int (nm_bc a0), .int (Int32.ofInt 1)] hp _ _
  refine py_its (pc := 5) (pc1 := 8) (lv1 := [(0, .int a0)]) (st1 := [.int (((Int32.ofInt 1) <<< ((nm_bc a0) &&& 31)) - (Int32.ofInt 1))]) 3 (fun _ _ _ _ => rfl) ?_
  have h := Option.some.inj h
  subst h
  exact py_ir (pc := 8) (len := 1) (ty := .int) rfl rfl rfl hS
/-! X_packing -/
noncomputable def fb_X_packing_L21 (v2 : Int32) (hp : px_H) (rc : Int32 → Int32 → Int32 → Option (Int32)) (v4 : Int32) (v5 : Int32) (v6 : Int32) : Option (Int32) :=
  bif px_cmp .ge v6 (Int8.ofInt 10).toInt32 then
    some v4
  else
    bif px_cmp .eq ((v2 >>> (v6 &&& 31)) &&& (Int32.ofInt 1)) 0 then
      rc v4 v5 (v6 + Int32.ofInt 1)
    else
      rc (v4 ||| ((v5 &&& (Int32.ofInt 1)) <<< (v6 &&& 31))) (v5 >>> ((Int32.ofInt 1) &&& 31)) (v6 + Int32.ofInt 1)
noncomputable def fn_X_packing_L21 (v2 : Int32) (hp : px_H) : Nat → Int32 → Int32 → Int32 → Option (Int32)
  | 0 => fun _ _ _ => none
  | n + 1 => fb_X_packing_L21 v2 hp (fn_X_packing_L21 v2 hp n)
theorem fl_X_packing_L21 {v2 : Int32} {hp : px_H}  : ∀ (n : Nat) (v4 : Int32) (v5 : Int32) (v6 : Int32) (lv : List (Nat × Value)) (res : Int32), oS hp → lk lv [(2, .int v2), (4, .int v4), (5, .int v5), (6, .int v6)] → fn_X_packing_L21 v2 hp n v4 v5 v6 = some res → px_Y mm_X_packing 21 lv [] hp (some (.int res)) hp := by
  intro n
  induction n with
  | zero =>
    intro v4 v5 v6 lv res hS hk h
    cases h
  | succ n ih =>
    intro v4 v5 v6 lv res hS hk h
    have h : fb_X_packing_L21 v2 hp (fn_X_packing_L21 v2 hp n) v4 v5 v6 = some res := h
    unfold fb_X_packing_L21 at h
    refine py_il (pc := 21) (len := 2) (j := 6) rfl hk rfl ?_
    refine py_its (pc := 23) (pc1 := 25) (lv1 := lv) (st1 := [.int (Int8.ofInt 10).toInt32, .int v6]) 1 (fun _ _ _ _ => rfl) ?_
    cases hb2 : px_cmp .ge v6 (Int8.ofInt 10).toInt32 with
    | true =>
      have h := cd_t hb2 h
      refine py_ic (pc := 25) (len := 3) true rfl hb2 ?_
      refine py_il (pc := 61) (len := 2) (j := 4) rfl hk rfl ?_
      have h := Option.some.inj h
      subst h
      exact py_ir (pc := 63) (len := 1) (ty := .int) rfl rfl rfl hS
    | false =>
      have h := cd_f hb2 h
      refine py_ic (pc := 25) (len := 3) false rfl hb2 ?_
      refine py_iln (pc := 28) (len := 1) (j := 2) rfl hk rfl ?_
      refine py_il (pc := 29) (len := 2) (j := 6) rfl hk rfl ?_
      refine py_its (pc := 31) (pc1 := 34) (lv1 := lv) (st1 := [.int ((v2 >>> (v6 &&& 31)) &&& (Int32.ofInt 1))]) 3 (fun _ _ _ _ => rfl) ?_
      cases hb3 : px_cmp .eq ((v2 >>> (v6 &&& 31)) &&& (Int32.ofInt 1)) 0 with
      | true =>
        have h := cd_t hb3 h
        refine py_if (pc := 34) (len := 3) true rfl hb3 ?_
        refine py_inc (pc := 55) (len := 3) (j := 6) (n := 1) rfl rfl hk rfl (fun lv4 hk5 => ?_)
        have hk5 : lk lv4 [(6, .int (v6 + Int32.ofInt 1)), (2, .int v2), (4, .int v4), (5, .int v5)] := hk5
        refine py_its (pc := 58) (pc1 := 21) (lv1 := lv4) (st1 := []) 1 (fun _ _ _ _ => rfl) ?_
        exact ih v4 v5 (v6 + Int32.ofInt 1) lv4 _ hS ⟨lk_find hk5 rfl, lk_find hk5 rfl, lk_find hk5 rfl, lk_find hk5 rfl, trivial⟩ h
      | false =>
        have h := cd_f hb3 h
        refine py_if (pc := 34) (len := 3) false rfl hb3 ?_
        refine py_il (pc := 37) (len := 2) (j := 4) rfl hk rfl ?_
        refine py_il (pc := 39) (len := 2) (j := 5) rfl hk rfl ?_
        refine py_its (pc := 41) (pc1 := 43) (lv1 := lv) (st1 := [.int (v5 &&& (Int32.ofInt 1)), .int v4]) 2 (fun _ _ _ _ => rfl) ?_
        refine py_il (pc := 43) (len := 2) (j := 6) rfl hk rfl ?_
        refine py_its (pc := 45) (pc1 := 47) (lv1 := lv) (st1 := [.int (v4 ||| ((v5 &&& (Int32.ofInt 1)) <<< (v6 &&& 31)))]) 2 (fun _ _ _ _ => rfl) ?_
        refine py_sti (pc := 47) (len := 2) (j := 4) rfl rfl hk (fun lv6 hk7 => ?_)
        have hk7 : lk lv6 [(4, .int (v4 ||| ((v5 &&& (Int32.ofInt 1)) <<< (v6 &&& 31)))), (2, .int v2), (5, .int v5), (6, .int v6)] := hk7
        refine py_il (pc := 49) (len := 2) (j := 5) rfl hk7 rfl ?_
        refine py_its (pc := 51) (pc1 := 53) (lv1 := lv6) (st1 := [.int (v5 >>> ((Int32.ofInt 1) &&& 31))]) 2 (fun _ _ _ _ => rfl) ?_
        refine py_sti (pc := 53) (len := 2) (j := 5) rfl rfl hk7 (fun lv8 hk9 => ?_)
        have hk9 : lk lv8 [(5, .int (v5 >>> ((Int32.ofInt 1) &&& 31))), (4, .int (v4 ||| ((v5 &&& (Int32.ofInt 1)) <<< (v6 &&& 31)))), (2, .int v2), (6, .int v6)] := hk9
        refine py_inc (pc := 55) (len := 3) (j := 6) (n := 1) rfl rfl hk9 rfl (fun lv10 hk11 => ?_)
        have hk11 : lk lv10 [(6, .int (v6 + Int32.ofInt 1)), (5, .int (v5 >>> ((Int32.ofInt 1) &&& 31))), (4, .int (v4 ||| ((v5 &&& (Int32.ofInt 1)) <<< (v6 &&& 31)))), (2, .int v2)] := hk11
        refine py_its (pc := 58) (pc1 := 21) (lv1 := lv10) (st1 := []) 1 (fun _ _ _ _ => rfl) ?_
        exact ih (v4 ||| ((v5 &&& (Int32.ofInt 1)) <<< (v6 &&& 31))) (v5 >>> ((Int32.ofInt 1) &&& 31)) (v6 + Int32.ofInt 1) lv10 _ hS ⟨lk_find hk11 rfl, lk_find hk11 rfl, lk_find hk11 rfl, lk_find hk11 rfl, trivial⟩ h
noncomputable def fn_X_packing (a1 : Int32) (a2 : Int32) (a3 : Int32) (hp : px_H) : Option (Int32) :=
  bif px_inR a1 2 then
  fn_X_packing_L21 a2 hp fu ((aI hp 7 a1.toNatClampNeg) &&& (a2 ^^^ (Int32.ofInt (-1)))) a3 (Int32.ofInt 0)
  else none
theorem fx_X_packing {a1 : Int32} {a2 : Int32} {a3 : Int32} {hp : px_H} {res : Int32} (hS : oS hp) (h : fn_X_packing a1 a2 a3 hp = some res) : px_C nm_T nm_P mi_X_packing [.ref 0, .int a1, .int a2, .int a3] hp (some (.int res)) hp ∧ oS hp := by
  unfold fn_X_packing at h
  refine py_C (M := mm_X_packing) rfl (Nat.le_of_ble_eq_true rfl) ?_
  show px_Y mm_X_packing 0 [(0, .ref 0), (1, .int a1), (2, .int a2), (3, .int a3)] [] hp _ _
  refine py_its (pc := 0) (pc1 := 1) (lv1 := [(0, .ref 0), (1, .int a1), (2, .int a2), (3, .int a3)]) (st1 := [.ref 0]) 1 (fun _ _ _ _ => rfl) ?_
  refine py_g1 1 (pc := 1) (len := 3) (cs := [0]) rfl rfl rfl List.mem_cons_self hS ?_
  refine py_g1 7 (pc := 4) (len := 3) (cs := [1]) rfl rfl rfl List.mem_cons_self hS ?_
  refine py_its (pc := 7) (pc1 := 8) (lv1 := [(0, .ref 0), (1, .int a1), (2, .int a2), (3, .int a3)]) (st1 := [.int a1, .ref 7]) 1 (fun _ _ _ _ => rfl) ?_
  obtain ⟨hi1, h⟩ := cd_n h
  refine py_ai (pc := 8) (len := 1) (cs := [7]) (t := 17) (n := 2) rfl rfl rfl hi1 List.mem_cons_self hS ?_
  refine py_its (pc := 9) (pc1 := 21) (lv1 := [(6, .int (Int32.ofInt 0)), (5, .int a3), (4, .int ((aI hp 7 a1.toNatClampNeg) &&& (a2 ^^^ (Int32.ofInt (-1))))), (0, .ref 0), (1, .int a1), (2, .int a2), (3, .int a3)]) (st1 := []) 9 (fun _ _ _ _ => rfl) ?_
  exact fl_X_packing_L21 fu ((aI hp 7 a1.toNatClampNeg) &&& (a2 ^^^ (Int32.ofInt (-1)))) a3 (Int32.ofInt 0) [(6, .int (Int32.ofInt 0)), (5, .int a3), (4, .int ((aI hp 7 a1.toNatClampNeg) &&& (a2 ^^^ (Int32.ofInt (-1))))), (0, .ref 0), (1, .int a1), (2, .int a2), (3, .int a3)] _ hS ⟨rfl, rfl, rfl, rfl, trivial⟩ h
/-! X_supposePacked -/
noncomputable def fn_X_supposePacked (a1 : Int32) (a2 : Int32) (hp : px_H) : Option (px_H) :=
  bif px_cmp .ne a1 0 then
    bif px_cmp .ne a1 0 then
      (fn_Course_set 14 (aI hp 7 (Int32.ofInt 0).toNatClampNeg) a2 (Int32.ofInt 0) hp).bind fun q3 =>
      (fn_Chest_startAnew 20 (aI hp 7 (Int32.ofInt 0).toNatClampNeg) a2 q3).bind fun q7 =>
      (fn_Walk_start 20 q7).bind fun q11 =>
      some q11
    else
      (fn_Course_set 14 (aI hp 7 (Int32.ofInt 0).toNatClampNeg) (aI hp 7 (Int32.ofInt 1).toNatClampNeg) (Int32.ofInt 0) hp).bind fun q15 =>
      (fn_Chest_startAnew 20 (aI hp 7 (Int32.ofInt 0).toNatClampNeg) (aI hp 7 (Int32.ofInt 1).toNatClampNeg) q15).bind fun q19 =>
      (fn_Walk_start 20 q19).bind fun q23 =>
      some q23
  else
    bif px_cmp .ne a1 0 then
      (fn_Course_set 14 a2 a2 (Int32.ofInt 0) hp).bind fun q28 =>
      (fn_Chest_startAnew 20 a2 a2 q28).bind fun q32 =>
      (fn_Walk_start 20 q32).bind fun q36 =>
      some q36
    else
      (fn_Course_set 14 a2 (aI hp 7 (Int32.ofInt 1).toNatClampNeg) (Int32.ofInt 0) hp).bind fun q40 =>
      (fn_Chest_startAnew 20 a2 (aI hp 7 (Int32.ofInt 1).toNatClampNeg) q40).bind fun q44 =>
      (fn_Walk_start 20 q44).bind fun q48 =>
      some q48
theorem fx_X_supposePacked {a1 : Int32} {a2 : Int32} {hp : px_H} {res : px_H} (hS : oS hp) (h : fn_X_supposePacked a1 a2 hp = some res) : px_C nm_T nm_P mi_X_supposePacked [.ref 0, .int a1, .int a2] hp none res ∧ oS res := by
  unfold fn_X_supposePacked at h
  refine py_C (M := mm_X_supposePacked) rfl (Nat.le_of_ble_eq_true rfl) ?_
  show px_Y mm_X_supposePacked 0 [(0, .ref 0), (1, .int a1), (2, .int a2)] [] hp _ _
  refine py_its (pc := 0) (pc1 := 1) (lv1 := [(0, .ref 0), (1, .int a1), (2, .int a2)]) (st1 := [.int a1]) 1 (fun _ _ _ _ => rfl) ?_
  cases hb1 : px_cmp .ne a1 0 with
  | true =>
    have h := cd_t hb1 h
    refine py_if (pc := 1) (len := 3) true rfl hb1 ?_
    refine py_its (pc := 8) (pc1 := 9) (lv1 := [(0, .ref 0), (1, .int a1), (2, .int a2)]) (st1 := [.ref 0]) 1 (fun _ _ _ _ => rfl) ?_
    refine py_g1 1 (pc := 9) (len := 3) (cs := [0]) rfl rfl rfl List.mem_cons_self hS ?_
    refine py_g1 7 (pc := 12) (len := 3) (cs := [1]) rfl rfl rfl List.mem_cons_self hS ?_
    refine py_its (pc := 15) (pc1 := 16) (lv1 := [(0, .ref 0), (1, .int a1), (2, .int a2)]) (st1 := [.int (Int32.ofInt 0), .ref 7]) 1 (fun _ _ _ _ => rfl) ?_
    refine py_ai (pc := 16) (len := 1) (cs := [7]) (t := 17) (n := 2) rfl rfl rfl rfl List.mem_cons_self hS ?_
    refine py_its (pc := 17) (pc1 := 19) (lv1 := [(3, .int (aI hp 7 (Int32.ofInt 0).toNatClampNeg)), (0, .ref 0), (1, .int a1), (2, .int a2)]) (st1 := [.int a1]) 2 (fun _ _ _ _ => rfl) ?_
    cases hb2 : px_cmp .ne a1 0 with
    | true =>
      have h := cd_t hb2 h
      refine py_if (pc := 19) (len := 3) true rfl hb2 ?_
      refine py_its (pc := 34) (pc1 := 38) (lv1 := [(4, .int a2), (3, .int (aI hp 7 (Int32.ofInt 0).toNatClampNeg)), (0, .ref 0), (1, .int a1), (2, .int a2)]) (st1 := [.ref 0]) 3 (fun _ _ _ _ => rfl) ?_
      refine py_g1 21 (pc := 38) (len := 3) (cs := [0]) rfl rfl rfl List.mem_cons_self hS ?_
      refine py_its (pc := 41) (pc1 := 42) (lv1 := [(4, .int a2), (3, .int (aI hp 7 (Int32.ofInt 0).toNatClampNeg)), (0, .ref 0), (1, .int a1), (2, .int a2)]) (st1 := [.ref 0, .ref 21]) 1 (fun _ _ _ _ => rfl) ?_
      refine py_g1 14 (pc := 42) (len := 3) (cs := [0]) rfl rfl rfl List.mem_cons_self hS ?_
      refine py_its (pc := 45) (pc1 := 49) (lv1 := [(4, .int a2), (3, .int (aI hp 7 (Int32.ofInt 0).toNatClampNeg)), (0, .ref 0), (1, .int a1), (2, .int a2)]) (st1 := [.int (Int32.ofInt 0), .int a2, .int (aI hp 7 (Int32.ofInt 0).toNatClampNeg), .ref 14, .ref 21]) 3 (fun _ _ _ _ => rfl) ?_
      obtain ⟨q3, hq4, h⟩ := bd_e h
      obtain ⟨hC5, hS6⟩ := fx_Course_set (List.mem_of_elem_eq_true rfl) hS hq4
      refine py_vi (pc := 49) (mi := mi_Course_set) (cs := [21]) (N := mm_Course_set) rfl rfl rfl rfl List.mem_cons_self hS rfl (Nat.le_of_ble_eq_true rfl) (Nat.le_of_ble_eq_true rfl) rfl rfl hC5 ?_
      show px_Y mm_X_supposePacked 52 [(4, .int a2), (3, .int (aI hp 7 (Int32.ofInt 0).toNatClampNeg)), (0, .ref 0), (1, .int a1), (2, .int a2)] [] q3 _ _
      refine py_its (pc := 52) (pc1 := 53) (lv1 := [(4, .int a2), (3, .int (aI hp 7 (Int32.ofInt 0).toNatClampNeg)), (0, .ref 0), (1, .int a1), (2, .int a2)]) (st1 := [.ref 0]) 1 (fun _ _ _ _ => rfl) ?_
      refine py_g1 20 (pc := 53) (len := 3) (cs := [0]) rfl rfl rfl List.mem_cons_self hS6 ?_
      refine py_its (pc := 56) (pc1 := 59) (lv1 := [(4, .int a2), (3, .int (aI hp 7 (Int32.ofInt 0).toNatClampNeg)), (0, .ref 0), (1, .int a1), (2, .int a2)]) (st1 := [.int a2, .int (aI hp 7 (Int32.ofInt 0).toNatClampNeg), .ref 20]) 2 (fun _ _ _ _ => rfl) ?_
      obtain ⟨q7, hq8, h⟩ := bd_e h
      obtain ⟨hC9, hS10⟩ := fx_Chest_startAnew (List.mem_of_elem_eq_true rfl) hS6 hq8
      refine py_vi (pc := 59) (mi := mi_Chest_startAnew) (cs := [20]) (N := mm_Chest_startAnew) rfl rfl rfl rfl List.mem_cons_self hS6 rfl (Nat.le_of_ble_eq_true rfl) (Nat.le_of_ble_eq_true rfl) rfl rfl hC9 ?_
      show px_Y mm_X_supposePacked 62 [(4, .int a2), (3, .int (aI hp 7 (Int32.ofInt 0).toNatClampNeg)), (0, .ref 0), (1, .int a1), (2, .int a2)] [] q7 _ _
      refine py_its (pc := 62) (pc1 := 63) (lv1 := [(4, .int a2), (3, .int (aI hp 7 (Int32.ofInt 0).toNatClampNeg)), (0, .ref 0), (1, .int a1), (2, .int a2)]) (st1 := [.ref 0]) 1 (fun _ _ _ _ => rfl) ?_
      refine py_g1 28 (pc := 63) (len := 3) (cs := [0]) rfl rfl rfl List.mem_cons_self hS10 ?_
      refine py_its (pc := 66) (pc1 := 67) (lv1 := [(4, .int a2), (3, .int (aI hp 7 (Int32.ofInt 0).toNatClampNeg)), (0, .ref 0), (1, .int a1), (2, .int a2)]) (st1 := [.ref 0, .ref 28]) 1 (fun _ _ _ _ => rfl) ?_
      refine py_g1 20 (pc := 67) (len := 3) (cs := [0]) rfl rfl rfl List.mem_cons_self hS10 ?_
      obtain ⟨q11, hq12, h⟩ := bd_e h
      obtain ⟨hC13, hS14⟩ := fx_Walk_start (List.mem_of_elem_eq_true rfl) hS10 hq12
      refine py_vi (pc := 70) (mi := mi_Walk_start) (cs := [28]) (N := mm_Walk_start) rfl rfl rfl rfl List.mem_cons_self hS10 rfl (Nat.le_of_ble_eq_true rfl) (Nat.le_of_ble_eq_true rfl) rfl rfl hC13 ?_
      show px_Y mm_X_supposePacked 73 [(4, .int a2), (3, .int (aI hp 7 (Int32.ofInt 0).toNatClampNeg)), (0, .ref 0), (1, .int a1), (2, .int a2)] [] q11 _ _
      have h := Option.some.inj h
      subst h
      exact py_rt (pc := 73) (len := 1) rfl rfl hS14
    | false =>
      have h := cd_f hb2 h
      refine py_if (pc := 19) (len := 3) false rfl hb2 ?_
      refine py_its (pc := 22) (pc1 := 23) (lv1 := [(3, .int (aI hp 7 (Int32.ofInt 0).toNatClampNeg)), (0, .ref 0), (1, .int a1), (2, .int a2)]) (st1 := [.ref 0]) 1 (fun _ _ _ _ => rfl) ?_
      refine py_g1 1 (pc := 23) (len := 3) (cs := [0]) rfl rfl rfl List.mem_cons_self hS ?_
      refine py_g1 7 (pc := 26) (len := 3) (cs := [1]) rfl rfl rfl List.mem_cons_self hS ?_
      refine py_its (pc := 29) (pc1 := 30) (lv1 := [(3, .int (aI hp 7 (Int32.ofInt 0).toNatClampNeg)), (0, .ref 0), (1, .int a1), (2, .int a2)]) (st1 := [.int (Int32.ofInt 1), .ref 7]) 1 (fun _ _ _ _ => rfl) ?_
      refine py_ai (pc := 30) (len := 1) (cs := [7]) (t := 17) (n := 2) rfl rfl rfl rfl List.mem_cons_self hS ?_
      refine py_its (pc := 31) (pc1 := 38) (lv1 := [(4, .int (aI hp 7 (Int32.ofInt 1).toNatClampNeg)), (3, .int (aI hp 7 (Int32.ofInt 0).toNatClampNeg)), (0, .ref 0), (1, .int a1), (2, .int a2)]) (st1 := [.ref 0]) 3 (fun _ _ _ _ => rfl) ?_
      refine py_g1 21 (pc := 38) (len := 3) (cs := [0]) rfl rfl rfl List.mem_cons_self hS ?_
      refine py_its (pc := 41) (pc1 := 42) (lv1 := [(4, .int (aI hp 7 (Int32.ofInt 1).toNatClampNeg)), (3, .int (aI hp 7 (Int32.ofInt 0).toNatClampNeg)), (0, .ref 0), (1, .int a1), (2, .int a2)]) (st1 := [.ref 0, .ref 21]) 1 (fun _ _ _ _ => rfl) ?_
      refine py_g1 14 (pc := 42) (len := 3) (cs := [0]) rfl rfl rfl List.mem_cons_self hS ?_
      refine py_its (pc := 45) (pc1 := 49) (lv1 := [(4, .int (aI hp 7 (Int32.ofInt 1).toNatClampNeg)), (3, .int (aI hp 7 (Int32.ofInt 0).toNatClampNeg)), (0, .ref 0), (1, .int a1), (2, .int a2)]) (st1 := [.int (Int32.ofInt 0), .int (aI hp 7 (Int32.ofInt 1).toNatClampNeg), .int (aI hp 7 (Int32.ofInt 0).toNatClampNeg), .ref 14, .ref 21]) 3 (fun _ _ _ _ => rfl) ?_
      obtain ⟨q15, hq16, h⟩ := bd_e h
      obtain ⟨hC17, hS18⟩ := fx_Course_set (List.mem_of_elem_eq_true rfl) hS hq16
      refine py_vi (pc := 49) (mi := mi_Course_set) (cs := [21]) (N := mm_Course_set) rfl rfl rfl rfl List.mem_cons_self hS rfl (Nat.le_of_ble_eq_true rfl) (Nat.le_of_ble_eq_true rfl) rfl rfl hC17 ?_
      show px_Y mm_X_supposePacked 52 [(4, .int (aI hp 7 (Int32.ofInt 1).toNatClampNeg)), (3, .int (aI hp 7 (Int32.ofInt 0).toNatClampNeg)), (0, .ref 0), (1, .int a1), (2, .int a2)] [] q15 _ _
      refine py_its (pc := 52) (pc1 := 53) (lv1 := [(4, .int (aI hp 7 (Int32.ofInt 1).toNatClampNeg)), (3, .int (aI hp 7 (Int32.ofInt 0).toNatClampNeg)), (0, .ref 0), (1, .int a1), (2, .int a2)]) (st1 := [.ref 0]) 1 (fun _ _ _ _ => rfl) ?_
      refine py_g1 20 (pc := 53) (len := 3) (cs := [0]) rfl rfl rfl List.mem_cons_self hS18 ?_
      refine py_its (pc := 56) (pc1 := 59) (lv1 := [(4, .int (aI hp 7 (Int32.ofInt 1).toNatClampNeg)), (3, .int (aI hp 7 (Int32.ofInt 0).toNatClampNeg)), (0, .ref 0), (1, .int a1), (2, .int a2)]) (st1 := [.int (aI hp 7 (Int32.ofInt 1).toNatClampNeg), .int (aI hp 7 (Int32.ofInt 0).toNatClampNeg), .ref 20]) 2 (fun _ _ _ _ => rfl) ?_
      obtain ⟨q19, hq20, h⟩ := bd_e h
      obtain ⟨hC21, hS22⟩ := fx_Chest_startAnew (List.mem_of_elem_eq_true rfl) hS18 hq20
      refine py_vi (pc := 59) (mi := mi_Chest_startAnew) (cs := [20]) (N := mm_Chest_startAnew) rfl rfl rfl rfl List.mem_cons_self hS18 rfl (Nat.le_of_ble_eq_true rfl) (Nat.le_of_ble_eq_true rfl) rfl rfl hC21 ?_
      show px_Y mm_X_supposePacked 62 [(4, .int (aI hp 7 (Int32.ofInt 1).toNatClampNeg)), (3, .int (aI hp 7 (Int32.ofInt 0).toNatClampNeg)), (0, .ref 0), (1, .int a1), (2, .int a2)] [] q19 _ _
      refine py_its (pc := 62) (pc1 := 63) (lv1 := [(4, .int (aI hp 7 (Int32.ofInt 1).toNatClampNeg)), (3, .int (aI hp 7 (Int32.ofInt 0).toNatClampNeg)), (0, .ref 0), (1, .int a1), (2, .int a2)]) (st1 := [.ref 0]) 1 (fun _ _ _ _ => rfl) ?_
      refine py_g1 28 (pc := 63) (len := 3) (cs := [0]) rfl rfl rfl List.mem_cons_self hS22 ?_
      refine py_its (pc := 66) (pc1 := 67) (lv1 := [(4, .int (aI hp 7 (Int32.ofInt 1).toNatClampNeg)), (3, .int (aI hp 7 (Int32.ofInt 0).toNatClampNeg)), (0, .ref 0), (1, .int a1), (2, .int a2)]) (st1 := [.ref 0, .ref 28]) 1 (fun _ _ _ _ => rfl) ?_
      refine py_g1 20 (pc := 67) (len := 3) (cs := [0]) rfl rfl rfl List.mem_cons_self hS22 ?_
      obtain ⟨q23, hq24, h⟩ := bd_e h
      obtain ⟨hC25, hS26⟩ := fx_Walk_start (List.mem_of_elem_eq_true rfl) hS22 hq24
      refine py_vi (pc := 70) (mi := mi_Walk_start) (cs := [28]) (N := mm_Walk_start) rfl rfl rfl rfl List.mem_cons_self hS22 rfl (Nat.le_of_ble_eq_true rfl) (Nat.le_of_ble_eq_true rfl) rfl rfl hC25 ?_
      show px_Y mm_X_supposePacked 73 [(4, .int (aI hp 7 (Int32.ofInt 1).toNatClampNeg)), (3, .int (aI hp 7 (Int32.ofInt 0).toNatClampNeg)), (0, .ref 0), (1, .int a1), (2, .int a2)] [] q23 _ _
      have h := Option.some.inj h
      subst h
      exact py_rt (pc := 73) (len := 1) rfl rfl hS26
  | false =>
    have h := cd_f hb1 h
    refine py_if (pc := 1) (len := 3) false rfl hb1 ?_
    refine py_its (pc := 4) (pc1 := 19) (lv1 := [(3, .int a2), (0, .ref 0), (1, .int a1), (2, .int a2)]) (st1 := [.int a1]) 4 (fun _ _ _ _ => rfl) ?_
    cases hb27 : px_cmp .ne a1 0 with
    | true =>
      have h := cd_t hb27 h
      refine py_if (pc := 19) (len := 3) true rfl hb27 ?_
      refine py_its (pc := 34) (pc1 := 38) (lv1 := [(4, .int a2), (3, .int a2), (0, .ref 0), (1, .int a1), (2, .int a2)]) (st1 := [.ref 0]) 3 (fun _ _ _ _ => rfl) ?_
      refine py_g1 21 (pc := 38) (len := 3) (cs := [0]) rfl rfl rfl List.mem_cons_self hS ?_
      refine py_its (pc := 41) (pc1 := 42) (lv1 := [(4, .int a2), (3, .int a2), (0, .ref 0), (1, .int a1), (2, .int a2)]) (st1 := [.ref 0, .ref 21]) 1 (fun _ _ _ _ => rfl) ?_
      refine py_g1 14 (pc := 42) (len := 3) (cs := [0]) rfl rfl rfl List.mem_cons_self hS ?_
      refine py_its (pc := 45) (pc1 := 49) (lv1 := [(4, .int a2), (3, .int a2), (0, .ref 0), (1, .int a1), (2, .int a2)]) (st1 := [.int (Int32.ofInt 0), .int a2, .int a2, .ref 14, .ref 21]) 3 (fun _ _ _ _ => rfl) ?_
      obtain ⟨q28, hq29, h⟩ := bd_e h
      obtain ⟨hC30, hS31⟩ := fx_Course_set (List.mem_of_elem_eq_true rfl) hS hq29
      refine py_vi (pc := 49) (mi := mi_Course_set) (cs := [21]) (N := mm_Course_set) rfl rfl rfl rfl List.mem_cons_self hS rfl (Nat.le_of_ble_eq_true rfl) (Nat.le_of_ble_eq_true rfl) rfl rfl hC30 ?_
      show px_Y mm_X_supposePacked 52 [(4, .int a2), (3, .int a2), (0, .ref 0), (1, .int a1), (2, .int a2)] [] q28 _ _
      refine py_its (pc := 52) (pc1 := 53) (lv1 := [(4, .int a2), (3, .int a2), (0, .ref 0), (1, .int a1), (2, .int a2)]) (st1 := [.ref 0]) 1 (fun _ _ _ _ => rfl) ?_
      refine py_g1 20 (pc := 53) (len := 3) (cs := [0]) rfl rfl rfl List.mem_cons_self hS31 ?_
      refine py_its (pc := 56) (pc1 := 59) (lv1 := [(4, .int a2), (3, .int a2), (0, .ref 0), (1, .int a1), (2, .int a2)]) (st1 := [.int a2, .int a2, .ref 20]) 2 (fun _ _ _ _ => rfl) ?_
      obtain ⟨q32, hq33, h⟩ := bd_e h
      obtain ⟨hC34, hS35⟩ := fx_Chest_startAnew (List.mem_of_elem_eq_true rfl) hS31 hq33
      refine py_vi (pc := 59) (mi := mi_Chest_startAnew) (cs := [20]) (N := mm_Chest_startAnew) rfl rfl rfl rfl List.mem_cons_self hS31 rfl (Nat.le_of_ble_eq_true rfl) (Nat.le_of_ble_eq_true rfl) rfl rfl hC34 ?_
      show px_Y mm_X_supposePacked 62 [(4, .int a2), (3, .int a2), (0, .ref 0), (1, .int a1), (2, .int a2)] [] q32 _ _
      refine py_its (pc := 62) (pc1 := 63) (lv1 := [(4, .int a2), (3, .int a2), (0, .ref 0), (1, .int a1), (2, .int a2)]) (st1 := [.ref 0]) 1 (fun _ _ _ _ => rfl) ?_
      refine py_g1 28 (pc := 63) (len := 3) (cs := [0]) rfl rfl rfl List.mem_cons_self hS35 ?_
      refine py_its (pc := 66) (pc1 := 67) (lv1 := [(4, .int a2), (3, .int a2), (0, .ref 0), (1, .int a1), (2, .int a2)]) (st1 := [.ref 0, .ref 28]) 1 (fun _ _ _ _ => rfl) ?_
      refine py_g1 20 (pc := 67) (len := 3) (cs := [0]) rfl rfl rfl List.mem_cons_self hS35 ?_
      obtain ⟨q36, hq37, h⟩ := bd_e h
      obtain ⟨hC38, hS39⟩ := fx_Walk_start (List.mem_of_elem_eq_true rfl) hS35 hq37
      refine py_vi (pc := 70) (mi := mi_Walk_start) (cs := [28]) (N := mm_Walk_start) rfl rfl rfl rfl List.mem_cons_self hS35 rfl (Nat.le_of_ble_eq_true rfl) (Nat.le_of_ble_eq_true rfl) rfl rfl hC38 ?_
      show px_Y mm_X_supposePacked 73 [(4, .int a2), (3, .int a2), (0, .ref 0), (1, .int a1), (2, .int a2)] [] q36 _ _
      have h := Option.some.inj h
      subst h
      exact py_rt (pc := 73) (len := 1) rfl rfl hS39
    | false =>
      have h := cd_f hb27 h
      refine py_if (pc := 19) (len := 3) false rfl hb27 ?_
      refine py_its (pc := 22) (pc1 := 23) (lv1 := [(3, .int a2), (0, .ref 0), (1, .int a1), (2, .int a2)]) (st1 := [.ref 0]) 1 (fun _ _ _ _ => rfl) ?_
      refine py_g1 1 (pc := 23) (len := 3) (cs := [0]) rfl rfl rfl List.mem_cons_self hS ?_
      refine py_g1 7 (pc := 26) (len := 3) (cs := [1]) rfl rfl rfl List.mem_cons_self hS ?_
      refine py_its (pc := 29) (pc1 := 30) (lv1 := [(3, .int a2), (0, .ref 0), (1, .int a1), (2, .int a2)]) (st1 := [.int (Int32.ofInt 1), .ref 7]) 1 (fun _ _ _ _ => rfl) ?_
      refine py_ai (pc := 30) (len := 1) (cs := [7]) (t := 17) (n := 2) rfl rfl rfl rfl List.mem_cons_self hS ?_
      refine py_its (pc := 31) (pc1 := 38) (lv1 := [(4, .int (aI hp 7 (Int32.ofInt 1).toNatClampNeg)), (3, .int a2), (0, .ref 0), (1, .int a1), (2, .int a2)]) (st1 := [.ref 0]) 3 (fun _ _ _ _ => rfl) ?_
      refine py_g1 21 (pc := 38) (len := 3) (cs := [0]) rfl rfl rfl List.mem_cons_self hS ?_
      refine py_its (pc := 41) (pc1 := 42) (lv1 := [(4, .int (aI hp 7 (Int32.ofInt 1).toNatClampNeg)), (3, .int a2), (0, .ref 0), (1, .int a1), (2, .int a2)]) (st1 := [.ref 0, .ref 21]) 1 (fun _ _ _ _ => rfl) ?_
      refine py_g1 14 (pc := 42) (len := 3) (cs := [0]) rfl rfl rfl List.mem_cons_self hS ?_
      refine py_its (pc := 45) (pc1 := 49) (lv1 := [(4, .int (aI hp 7 (Int32.ofInt 1).toNatClampNeg)), (3, .int a2), (0, .ref 0), (1, .int a1), (2, .int a2)]) (st1 := [.int (Int32.ofInt 0), .int (aI hp 7 (Int32.ofInt 1).toNatClampNeg), .int a2, .ref 14, .ref 21]) 3 (fun _ _ _ _ => rfl) ?_
      obtain ⟨q40, hq41, h⟩ := bd_e h
      obtain ⟨hC42, hS43⟩ := fx_Course_set (List.mem_of_elem_eq_true rfl) hS hq41
      refine py_vi (pc := 49) (mi := mi_Course_set) (cs := [21]) (N := mm_Course_set) rfl rfl rfl rfl List.mem_cons_self hS rfl (Nat.le_of_ble_eq_true rfl) (Nat.le_of_ble_eq_true rfl) rfl rfl hC42 ?_
      show px_Y mm_X_supposePacked 52 [(4, .int (aI hp 7 (Int32.ofInt 1).toNatClampNeg)), (3, .int a2), (0, .ref 0), (1, .int a1), (2, .int a2)] [] q40 _ _
      refine py_its (pc := 52) (pc1 := 53) (lv1 := [(4, .int (aI hp 7 (Int32.ofInt 1).toNatClampNeg)), (3, .int a2), (0, .ref 0), (1, .int a1), (2, .int a2)]) (st1 := [.ref 0]) 1 (fun _ _ _ _ => rfl) ?_
      refine py_g1 20 (pc := 53) (len := 3) (cs := [0]) rfl rfl rfl List.mem_cons_self hS43 ?_
      refine py_its (pc := 56) (pc1 := 59) (lv1 := [(4, .int (aI hp 7 (Int32.ofInt 1).toNatClampNeg)), (3, .int a2), (0, .ref 0), (1, .int a1), (2, .int a2)]) (st1 := [.int (aI hp 7 (Int32.ofInt 1).toNatClampNeg), .int a2, .ref 20]) 2 (fun _ _ _ _ => rfl) ?_
      obtain ⟨q44, hq45, h⟩ := bd_e h
      obtain ⟨hC46, hS47⟩ := fx_Chest_startAnew (List.mem_of_elem_eq_true rfl) hS43 hq45
      refine py_vi (pc := 59) (mi := mi_Chest_startAnew) (cs := [20]) (N := mm_Chest_startAnew) rfl rfl rfl rfl List.mem_cons_self hS43 rfl (Nat.le_of_ble_eq_true rfl) (Nat.le_of_ble_eq_true rfl) rfl rfl hC46 ?_
      show px_Y mm_X_supposePacked 62 [(4, .int (aI hp 7 (Int32.ofInt 1).toNatClampNeg)), (3, .int a2), (0, .ref 0), (1, .int a1), (2, .int a2)] [] q44 _ _
      refine py_its (pc := 62) (pc1 := 63) (lv1 := [(4, .int (aI hp 7 (Int32.ofInt 1).toNatClampNeg)), (3, .int a2), (0, .ref 0), (1, .int a1), (2, .int a2)]) (st1 := [.ref 0]) 1 (fun _ _ _ _ => rfl) ?_
      refine py_g1 28 (pc := 63) (len := 3) (cs := [0]) rfl rfl rfl List.mem_cons_self hS47 ?_
      refine py_its (pc := 66) (pc1 := 67) (lv1 := [(4, .int (aI hp 7 (Int32.ofInt 1).toNatClampNeg)), (3, .int a2), (0, .ref 0), (1, .int a1), (2, .int a2)]) (st1 := [.ref 0, .ref 28]) 1 (fun _ _ _ _ => rfl) ?_
      refine py_g1 20 (pc := 67) (len := 3) (cs := [0]) rfl rfl rfl List.mem_cons_self hS47 ?_
      obtain ⟨q48, hq49, h⟩ := bd_e h
      obtain ⟨hC50, hS51⟩ := fx_Walk_start (List.mem_of_elem_eq_true rfl) hS47 hq49
      refine py_vi (pc := 70) (mi := mi_Walk_start) (cs := [28]) (N := mm_Walk_start) rfl rfl rfl rfl List.mem_cons_self hS47 rfl (Nat.le_of_ble_eq_true rfl) (Nat.le_of_ble_eq_true rfl) rfl rfl hC50 ?_
      show px_Y mm_X_supposePacked 73 [(4, .int (aI hp 7 (Int32.ofInt 1).toNatClampNeg)), (3, .int a2), (0, .ref 0), (1, .int a1), (2, .int a2)] [] q48 _ _
      have h := Option.some.inj h
      subst h
      exact py_rt (pc := 73) (len := 1) rfl rfl hS51
/-! X_walkPacked -/
noncomputable def fb_X_walkPacked_L12 (v3 : Int32) (rc : Int32 → Int32 → px_H → Option (Int32 × px_H)) (v4 : Int32) (v5 : Int32) (hp : px_H) : Option (Int32 × px_H) :=
  bif px_cmp .gt v5 v3 then
    bif px_zr .boolean v4 then
    some (v4, hp)
    else none
  else
    bif px_cmp .eq v4 0 then
      bif px_zr .boolean v4 then
      some (v4, hp)
      else none
    else
      (fn_Walk_pass v5 hp).bind fun q9 =>
      rc q9.1 (v5 + Int32.ofInt 1) q9.2
noncomputable def fn_X_walkPacked_L12 (v3 : Int32) : Nat → Int32 → Int32 → px_H → Option (Int32 × px_H)
  | 0 => fun _ _ _ => none
  | n + 1 => fb_X_walkPacked_L12 v3 (fn_X_walkPacked_L12 v3 n)
theorem fl_X_walkPacked_L12 {v3 : Int32}  : ∀ (n : Nat) (v4 : Int32) (v5 : Int32) (hp : px_H) (lv : List (Nat × Value)) (res : Int32 × px_H), oS hp → lk lv [(0, .ref 0), (3, .int v3), (4, .int v4), (5, .int v5)] → fn_X_walkPacked_L12 v3 n v4 v5 hp = some res → px_Y mm_X_walkPacked 12 lv [] hp (some (.int res.1)) res.2 := by
  intro n
  induction n with
  | zero =>
    intro v4 v5 hp lv res hS hk h
    cases h
  | succ n ih =>
    intro v4 v5 hp lv res hS hk h
    have h : fb_X_walkPacked_L12 v3 (fn_X_walkPacked_L12 v3 n) v4 v5 hp = some res := h
    unfold fb_X_walkPacked_L12 at h
    refine py_il (pc := 12) (len := 2) (j := 5) rfl hk rfl ?_
    refine py_iln (pc := 14) (len := 1) (j := 3) rfl hk rfl ?_
    cases hb5 : px_cmp .gt v5 v3 with
    | true =>
      have h := cd_t hb5 h
      refine py_ic (pc := 15) (len := 3) true rfl hb5 ?_
      refine py_il (pc := 44) (len := 2) (j := 4) rfl hk rfl ?_
      obtain ⟨hz6, h⟩ := cd_n h
      have h := Option.some.inj h
      subst h
      exact py_ir (pc := 46) (len := 1) (ty := .boolean) rfl rfl hz6 hS
    | false =>
      have h := cd_f hb5 h
      refine py_ic (pc := 15) (len := 3) false rfl hb5 ?_
      refine py_il (pc := 18) (len := 2) (j := 4) rfl hk rfl ?_
      cases hb7 : px_cmp .eq v4 0 with
      | true =>
        have h := cd_t hb7 h
        refine py_if (pc := 20) (len := 3) true rfl hb7 ?_
        refine py_il (pc := 44) (len := 2) (j := 4) rfl hk rfl ?_
        obtain ⟨hz8, h⟩ := cd_n h
        have h := Option.some.inj h
        subst h
        exact py_ir (pc := 46) (len := 1) (ty := .boolean) rfl rfl hz8 hS
      | false =>
        have h := cd_f hb7 h
        refine py_if (pc := 20) (len := 3) false rfl hb7 ?_
        refine py_aln (pc := 23) (len := 1) (j := 0) rfl hk rfl ?_
        refine py_g1 28 (pc := 24) (len := 3) (cs := [0]) rfl rfl rfl List.mem_cons_self hS ?_
        refine py_aln (pc := 27) (len := 1) (j := 0) rfl hk rfl ?_
        refine py_g1 21 (pc := 28) (len := 3) (cs := [0]) rfl rfl rfl List.mem_cons_self hS ?_
        refine py_il (pc := 31) (len := 2) (j := 5) rfl hk rfl ?_
        obtain ⟨q9, hq10, h⟩ := bd_e h
        obtain ⟨hC11, hS12⟩ := fx_Walk_pass hS hq10
        refine py_vi (pc := 33) (mi := mi_Walk_pass) (cs := [28]) (N := mm_Walk_pass) rfl rfl rfl rfl List.mem_cons_self hS rfl (Nat.le_of_ble_eq_true rfl) (Nat.le_of_ble_eq_true rfl) rfl rfl hC11 ?_
        show px_Y mm_X_walkPacked 36 lv [.int q9.1] q9.2 _ _
        refine py_sti (pc := 36) (len := 2) (j := 4) rfl rfl hk (fun lv13 hk14 => ?_)
        have hk14 : lk lv13 [(4, .int q9.1), (0, .ref 0), (3, .int v3), (5, .int v5)] := hk14
        refine py_inc (pc := 38) (len := 3) (j := 5) (n := 1) rfl rfl hk14 rfl (fun lv15 hk16 => ?_)
        have hk16 : lk lv15 [(5, .int (v5 + Int32.ofInt 1)), (4, .int q9.1), (0, .ref 0), (3, .int v3)] := hk16
        refine py_its (pc := 41) (pc1 := 12) (lv1 := lv15) (st1 := []) 1 (fun _ _ _ _ => rfl) ?_
        exact ih q9.1 (v5 + Int32.ofInt 1) q9.2 lv15 _ hS12 ⟨lk_find hk16 rfl, lk_find hk16 rfl, lk_find hk16 rfl, lk_find hk16 rfl, trivial⟩ h
noncomputable def fn_X_walkPacked (a1 : Int32) (a2 : Int32) (a3 : Int32) (hp : px_H) : Option (Int32 × px_H) :=
  (fn_X_supposePacked a1 a2 hp).bind fun q1 =>
  fn_X_walkPacked_L12 a3 fu (Int32.ofInt 1) (Int32.ofInt 0) q1
theorem fx_X_walkPacked {a1 : Int32} {a2 : Int32} {a3 : Int32} {hp : px_H} {res : Int32 × px_H} (hS : oS hp) (h : fn_X_walkPacked a1 a2 a3 hp = some res) : px_C nm_T nm_P mi_X_walkPacked [.ref 0, .int a1, .int a2, .int a3] hp (some (.int res.1)) res.2 ∧ oS res.2 := by
  unfold fn_X_walkPacked at h
  refine py_C (M := mm_X_walkPacked) rfl (Nat.le_of_ble_eq_true rfl) ?_
  show px_Y mm_X_walkPacked 0 [(0, .ref 0), (1, .int a1), (2, .int a2), (3, .int a3)] [] hp _ _
  refine py_its (pc := 0) (pc1 := 3) (lv1 := [(0, .ref 0), (1, .int a1), (2, .int a2), (3, .int a3)]) (st1 := [.int a2, .int a1, .ref 0]) 3 (fun _ _ _ _ => rfl) ?_
  obtain ⟨q1, hq2, h⟩ := bd_e h
  obtain ⟨hC3, hS4⟩ := fx_X_supposePacked hS hq2
  refine py_vi (pc := 3) (mi := mi_X_supposePacked) (cs := [0]) (N := mm_X_supposePacked) rfl rfl rfl rfl List.mem_cons_self hS rfl (Nat.le_of_ble_eq_true rfl) (Nat.le_of_ble_eq_true rfl) rfl rfl hC3 ?_
  show px_Y mm_X_walkPacked 6 [(0, .ref 0), (1, .int a1), (2, .int a2), (3, .int a3)] [] q1 _ _
  refine py_its (pc := 6) (pc1 := 12) (lv1 := [(5, .int (Int32.ofInt 0)), (4, .int (Int32.ofInt 1)), (0, .ref 0), (1, .int a1), (2, .int a2), (3, .int a3)]) (st1 := []) 4 (fun _ _ _ _ => rfl) ?_
  exact fl_X_walkPacked_L12 fu (Int32.ofInt 1) (Int32.ofInt 0) q1 [(5, .int (Int32.ofInt 0)), (4, .int (Int32.ofInt 1)), (0, .ref 0), (1, .int a1), (2, .int a2), (3, .int a3)] _ hS4 ⟨rfl, rfl, rfl, rfl, trivial⟩ h
/-! X_best -/
noncomputable def fb_X_best_L59 (v1 : Int32) (v2 : Int32) (v3 : Int32) (v4 : Int32) (v5 : Int32) (rc : Int32 → Int64 → Int32 → px_H → Option (Int32 × px_H)) (v6 : Int32) (v7 : Int64) (v9 : Int32) (hp : px_H) : Option (Int32 × px_H) :=
  bif px_cmp .lt v9 0 then
    (fn_Row_tellOne v6.toInt64 hp).bind fun q19 =>
    (fn_Row_tell v7 q19).bind fun q23 =>
    some ((Int32.ofInt 0), q23)
  else
    (fn_X_packing v1 v2 v9 hp).bind fun q27 =>
    (fn_X_walkPacked v1 q27 v4 hp).bind fun q32 =>
    bif px_cmp .ne q32.1 0 then
      (fn_Walk_chanceOfAny ((Int32.ofInt 1) <<< (v3 &&& 31)) q32.2).bind fun q37 =>
      bif px_cmp .ne v5 0 then
        bif px_cmp .ge (lg_cmp q37 v7) 0 then
          bif px_cmp .ne (lg_cmp q37 v7) 0 then
            bif px_cmp .lt v6 0 then
              rc q27 q37 (v9 + Int32.ofInt (-1)) q32.2
            else
              rc v6 v7 (v9 + Int32.ofInt (-1)) q32.2
          else
            bif px_cmp .gt (nm_bc q27) (nm_bc v6) then
              bif px_cmp .lt v6 0 then
                rc q27 q37 (v9 + Int32.ofInt (-1)) q32.2
              else
                rc v6 v7 (v9 + Int32.ofInt (-1)) q32.2
            else
              bif px_cmp .lt v6 0 then
                rc q27 q37 (v9 + Int32.ofInt (-1)) q32.2
              else
                rc q27 q37 (v9 + Int32.ofInt (-1)) q32.2
        else
          bif px_cmp .ne (lg_cmp q37 v7) 0 then
            bif px_cmp .lt v6 0 then
              rc q27 q37 (v9 + Int32.ofInt (-1)) q32.2
            else
              rc q27 q37 (v9 + Int32.ofInt (-1)) q32.2
          else
            bif px_cmp .gt (nm_bc q27) (nm_bc v6) then
              bif px_cmp .lt v6 0 then
                rc q27 q37 (v9 + Int32.ofInt (-1)) q32.2
              else
                rc q27 q37 (v9 + Int32.ofInt (-1)) q32.2
            else
              bif px_cmp .lt v6 0 then
                rc q27 q37 (v9 + Int32.ofInt (-1)) q32.2
              else
                rc q27 q37 (v9 + Int32.ofInt (-1)) q32.2
      else
        bif px_cmp .le (lg_cmp q37 v7) 0 then
          bif px_cmp .ne (lg_cmp q37 v7) 0 then
            bif px_cmp .lt v6 0 then
              rc q27 q37 (v9 + Int32.ofInt (-1)) q32.2
            else
              rc v6 v7 (v9 + Int32.ofInt (-1)) q32.2
          else
            bif px_cmp .gt (nm_bc q27) (nm_bc v6) then
              bif px_cmp .lt v6 0 then
                rc q27 q37 (v9 + Int32.ofInt (-1)) q32.2
              else
                rc v6 v7 (v9 + Int32.ofInt (-1)) q32.2
            else
              bif px_cmp .lt v6 0 then
                rc q27 q37 (v9 + Int32.ofInt (-1)) q32.2
              else
                rc q27 q37 (v9 + Int32.ofInt (-1)) q32.2
        else
          bif px_cmp .ne (lg_cmp q37 v7) 0 then
            bif px_cmp .lt v6 0 then
              rc q27 q37 (v9 + Int32.ofInt (-1)) q32.2
            else
              rc q27 q37 (v9 + Int32.ofInt (-1)) q32.2
          else
            bif px_cmp .gt (nm_bc q27) (nm_bc v6) then
              bif px_cmp .lt v6 0 then
                rc q27 q37 (v9 + Int32.ofInt (-1)) q32.2
              else
                rc q27 q37 (v9 + Int32.ofInt (-1)) q32.2
            else
              bif px_cmp .lt v6 0 then
                rc q27 q37 (v9 + Int32.ofInt (-1)) q32.2
              else
                rc q27 q37 (v9 + Int32.ofInt (-1)) q32.2
    else
      some ((Int8.ofInt (-3)).toInt32, q32.2)
noncomputable def fn_X_best_L59 (v1 : Int32) (v2 : Int32) (v3 : Int32) (v4 : Int32) (v5 : Int32) : Nat → Int32 → Int64 → Int32 → px_H → Option (Int32 × px_H)
  | 0 => fun _ _ _ _ => none
  | n + 1 => fb_X_best_L59 v1 v2 v3 v4 v5 (fn_X_best_L59 v1 v2 v3 v4 v5 n)
theorem fl_X_best_L59 {v1 : Int32} {v2 : Int32} {v3 : Int32} {v4 : Int32} {v5 : Int32}  : ∀ (n : Nat) (v6 : Int32) (v7 : Int64) (v9 : Int32) (hp : px_H) (lv : List (Nat × Value)) (res : Int32 × px_H), oS hp → lk lv [(0, .ref 0), (1, .int v1), (2, .int v2), (3, .int v3), (4, .int v4), (5, .int v5), (6, .int v6), (7, .long v7), (9, .int v9)] → fn_X_best_L59 v1 v2 v3 v4 v5 n v6 v7 v9 hp = some res → px_Y mm_X_best 59 lv [] hp (some (.int res.1)) res.2 := by
  intro n
  induction n with
  | zero =>
    intro v6 v7 v9 hp lv res hS hk h
    cases h
  | succ n ih =>
    intro v6 v7 v9 hp lv res hS hk h
    have h : fb_X_best_L59 v1 v2 v3 v4 v5 (fn_X_best_L59 v1 v2 v3 v4 v5 n) v6 v7 v9 hp = some res := h
    unfold fb_X_best_L59 at h
    refine py_il (pc := 59) (len := 2) (j := 9) rfl hk rfl ?_
    cases hb18 : px_cmp .lt v9 0 with
    | true =>
      have h := cd_t hb18 h
      refine py_if (pc := 61) (len := 3) true rfl hb18 ?_
      refine py_aln (pc := 194) (len := 1) (j := 0) rfl hk rfl ?_
      refine py_g1 48 (pc := 195) (len := 3) (cs := [0]) rfl rfl rfl List.mem_cons_self hS ?_
      refine py_il (pc := 198) (len := 2) (j := 6) rfl hk rfl ?_
      refine py_its (pc := 200) (pc1 := 201) (lv1 := lv) (st1 := [.long v6.toInt64, .ref 48]) 1 (fun _ _ _ _ => rfl) ?_
      obtain ⟨q19, hq20, h⟩ := bd_e h
      obtain ⟨hC21, hS22⟩ := fx_Row_tellOne hS hq20
      refine py_vi (pc := 201) (mi := mi_Row_tellOne) (cs := [48]) (N := mm_Row_tellOne) rfl rfl rfl rfl List.mem_cons_self hS rfl (Nat.le_of_ble_eq_true rfl) (Nat.le_of_ble_eq_true rfl) rfl rfl hC21 ?_
      show px_Y mm_X_best 204 lv [] q19 _ _
      refine py_aln (pc := 204) (len := 1) (j := 0) rfl hk rfl ?_
      refine py_g1 48 (pc := 205) (len := 3) (cs := [0]) rfl rfl rfl List.mem_cons_self hS22 ?_
      refine py_ll (pc := 208) (len := 2) (j := 7) rfl hk rfl ?_
      obtain ⟨q23, hq24, h⟩ := bd_e h
      obtain ⟨hC25, hS26⟩ := fx_Row_tell hS22 hq24
      refine py_vi (pc := 210) (mi := mi_Row_tell) (cs := [48]) (N := mm_Row_tell) rfl rfl rfl rfl List.mem_cons_self hS22 rfl (Nat.le_of_ble_eq_true rfl) (Nat.le_of_ble_eq_true rfl) rfl rfl hC25 ?_
      show px_Y mm_X_best 213 lv [] q23 _ _
      refine py_its (pc := 213) (pc1 := 214) (lv1 := lv) (st1 := [.int (Int32.ofInt 0)]) 1 (fun _ _ _ _ => rfl) ?_
      have h := Option.some.inj h
      subst h
      exact py_ir (pc := 214) (len := 1) (ty := .int) rfl rfl rfl hS26
    | false =>
      have h := cd_f hb18 h
      refine py_if (pc := 61) (len := 3) false rfl hb18 ?_
      refine py_aln (pc := 64) (len := 1) (j := 0) rfl hk rfl ?_
      refine py_iln (pc := 65) (len := 1) (j := 1) rfl hk rfl ?_
      refine py_iln (pc := 66) (len := 1) (j := 2) rfl hk rfl ?_
      refine py_il (pc := 67) (len := 2) (j := 9) rfl hk rfl ?_
      obtain ⟨q27, hq28, h⟩ := bd_e h
      have hC29 := (fx_X_packing hS hq28).1
      refine py_vi (pc := 69) (mi := mi_X_packing) (cs := [0]) (N := mm_X_packing) rfl rfl rfl rfl List.mem_cons_self hS rfl (Nat.le_of_ble_eq_true rfl) (Nat.le_of_ble_eq_true rfl) rfl rfl hC29 ?_
      show px_Y mm_X_best 72 lv [.int q27] hp _ _
      refine py_sti (pc := 72) (len := 2) (j := 10) rfl rfl hk (fun lv30 hk31 => ?_)
      have hk31 : lk lv30 [(10, .int q27), (0, .ref 0), (1, .int v1), (2, .int v2), (3, .int v3), (4, .int v4), (5, .int v5), (6, .int v6), (7, .long v7), (9, .int v9)] := hk31
      refine py_aln (pc := 74) (len := 1) (j := 0) rfl hk31 rfl ?_
      refine py_iln (pc := 75) (len := 1) (j := 1) rfl hk31 rfl ?_
      refine py_il (pc := 76) (len := 2) (j := 10) rfl hk31 rfl ?_
      refine py_il (pc := 78) (len := 2) (j := 4) rfl hk31 rfl ?_
      obtain ⟨q32, hq33, h⟩ := bd_e h
      obtain ⟨hC34, hS35⟩ := fx_X_walkPacked hS hq33
      refine py_vi (pc := 80) (mi := mi_X_walkPacked) (cs := [0]) (N := mm_X_walkPacked) rfl rfl rfl rfl List.mem_cons_self hS rfl (Nat.le_of_ble_eq_true rfl) (Nat.le_of_ble_eq_true rfl) rfl rfl hC34 ?_
      show px_Y mm_X_best 83 lv30 [.int q32.1] q32.2 _ _
      cases hb36 : px_cmp .ne q32.1 0 with
      | true =>
        have h := cd_t hb36 h
        refine py_if (pc := 83) (len := 3) true rfl hb36 ?_
        refine py_aln (pc := 89) (len := 1) (j := 0) rfl hk31 rfl ?_
        refine py_g1 28 (pc := 90) (len := 3) (cs := [0]) rfl rfl rfl List.mem_cons_self hS35 ?_
        refine py_its (pc := 93) (pc1 := 94) (lv1 := lv30) (st1 := [.int (Int32.ofInt 1), .ref 28]) 1 (fun _ _ _ _ => rfl) ?_
        refine py_iln (pc := 94) (len := 1) (j := 3) rfl hk31 rfl ?_
        refine py_its (pc := 95) (pc1 := 96) (lv1 := lv30) (st1 := [.int ((Int32.ofInt 1) <<< (v3 &&& 31)), .ref 28]) 1 (fun _ _ _ _ => rfl) ?_
        obtain ⟨q37, hq38, h⟩ := bd_e h
        have hC39 := (fx_Walk_chanceOfAny hS35 hq38).1
        refine py_vi (pc := 96) (mi := mi_Walk_chanceOfAny) (cs := [28]) (N := mm_Walk_chanceOfAny) rfl rfl rfl rfl List.mem_cons_self hS35 rfl (Nat.le_of_ble_eq_true rfl) (Nat.le_of_ble_eq_true rfl) rfl rfl hC39 ?_
        show px_Y mm_X_best 99 lv30 [.long q37] q32.2 _ _
        refine py_stl (pc := 99) (len := 2) (j := 11) rfl rfl hk31 (fun lv40 hk41 => ?_)
        have hk41 : lk lv40 [(11, .long q37), (10, .int q27), (0, .ref 0), (1, .int v1), (2, .int v2), (3, .int v3), (4, .int v4), (5, .int v5), (6, .int v6), (7, .long v7), (9, .int v9)] := hk41
        refine py_il (pc := 101) (len := 2) (j := 5) rfl hk41 rfl ?_
        cases hb42 : px_cmp .ne v5 0 with
        | true =>
          have h := cd_t hb42 h
          refine py_if (pc := 103) (len := 3) true rfl hb42 ?_
          refine py_ll (pc := 122) (len := 2) (j := 11) rfl hk41 rfl ?_
          refine py_ll (pc := 124) (len := 2) (j := 7) rfl hk41 rfl ?_
          cases hb43 : px_cmp .ge (lg_cmp q37 v7) 0 with
          | true =>
            have h := cd_t hb43 h
            refine py_lc (pc := 126) (len := 1) true rfl rfl hb43 ?_
            refine py_its (pc := 134) (pc1 := 135) (lv1 := lv40) (st1 := [.int (Int32.ofInt 0)]) 1 (fun _ _ _ _ => rfl) ?_
            refine py_sti (pc := 135) (len := 2) (j := 13) rfl rfl hk41 (fun lv44 hk45 => ?_)
            have hk45 : lk lv44 [(13, .int (Int32.ofInt 0)), (11, .long q37), (10, .int q27), (0, .ref 0), (1, .int v1), (2, .int v2), (3, .int v3), (4, .int v4), (5, .int v5), (6, .int v6), (7, .long v7), (9, .int v9)] := hk45
            refine py_ll (pc := 137) (len := 2) (j := 11) rfl hk45 rfl ?_
            refine py_ll (pc := 139) (len := 2) (j := 7) rfl hk45 rfl ?_
            cases hb46 : px_cmp .ne (lg_cmp q37 v7) 0 with
            | true =>
              have h := cd_t hb46 h
              refine py_lc (pc := 141) (len := 1) true rfl rfl hb46 ?_
              refine py_its (pc := 162) (pc1 := 163) (lv1 := lv44) (st1 := [.int (Int32.ofInt 0)]) 1 (fun _ _ _ _ => rfl) ?_
              refine py_sti (pc := 163) (len := 2) (j := 14) rfl rfl hk45 (fun lv47 hk48 => ?_)
              have hk48 : lk lv47 [(14, .int (Int32.ofInt 0)), (13, .int (Int32.ofInt 0)), (11, .long q37), (10, .int q27), (0, .ref 0), (1, .int v1), (2, .int v2), (3, .int v3), (4, .int v4), (5, .int v5), (6, .int v6), (7, .long v7), (9, .int v9)] := hk48
              refine py_il (pc := 165) (len := 2) (j := 6) rfl hk48 rfl ?_
              cases hb49 : px_cmp .lt v6 0 with
              | true =>
                have h := cd_t hb49 h
                refine py_if (pc := 167) (len := 3) true rfl hb49 ?_
                refine py_il (pc := 180) (len := 2) (j := 10) rfl hk48 rfl ?_
                refine py_sti (pc := 182) (len := 2) (j := 6) rfl rfl hk48 (fun lv50 hk51 => ?_)
                have hk51 : lk lv50 [(6, .int q27), (14, .int (Int32.ofInt 0)), (13, .int (Int32.ofInt 0)), (11, .long q37), (10, .int q27), (0, .ref 0), (1, .int v1), (2, .int v2), (3, .int v3), (4, .int v4), (5, .int v5), (7, .long v7), (9, .int v9)] := hk51
                refine py_ll (pc := 184) (len := 2) (j := 11) rfl hk51 rfl ?_
                refine py_stl (pc := 186) (len := 2) (j := 7) rfl rfl hk51 (fun lv52 hk53 => ?_)
                have hk53 : lk lv52 [(7, .long q37), (6, .int q27), (14, .int (Int32.ofInt 0)), (13, .int (Int32.ofInt 0)), (11, .long q37), (10, .int q27), (0, .ref 0), (1, .int v1), (2, .int v2), (3, .int v3), (4, .int v4), (5, .int v5), (9, .int v9)] := hk53
                refine py_inc (pc := 188) (len := 3) (j := 9) (n := (-1)) rfl rfl hk53 rfl (fun lv54 hk55 => ?_)
                have hk55 : lk lv54 [(9, .int (v9 + Int32.ofInt (-1))), (7, .long q37), (6, .int q27), (14, .int (Int32.ofInt 0)), (13, .int (Int32.ofInt 0)), (11, .long q37), (10, .int q27), (0, .ref 0), (1, .int v1), (2, .int v2), (3, .int v3), (4, .int v4), (5, .int v5)] := hk55
                refine py_its (pc := 191) (pc1 := 59) (lv1 := lv54) (st1 := []) 1 (fun _ _ _ _ => rfl) ?_
                exact ih q27 q37 (v9 + Int32.ofInt (-1)) q32.2 lv54 _ hS35 ⟨lk_find hk55 rfl, lk_find hk55 rfl, lk_find hk55 rfl, lk_find hk55 rfl, lk_find hk55 rfl, lk_find hk55 rfl, lk_find hk55 rfl, lk_find hk55 rfl, lk_find hk55 rfl, trivial⟩ h
              | false =>
                have h := cd_f hb49 h
                refine py_if (pc := 167) (len := 3) false rfl hb49 ?_
                refine py_il (pc := 170) (len := 2) (j := 13) rfl hk48 rfl ?_
                refine py_if (pc := 172) (len := 3) false rfl (by decide) ?_
                refine py_il (pc := 175) (len := 2) (j := 14) rfl hk48 rfl ?_
                refine py_if (pc := 177) (len := 3) true rfl (by decide) ?_
                refine py_inc (pc := 188) (len := 3) (j := 9) (n := (-1)) rfl rfl hk48 rfl (fun lv56 hk57 => ?_)
                have hk57 : lk lv56 [(9, .int (v9 + Int32.ofInt (-1))), (14, .int (Int32.ofInt 0)), (13, .int (Int32.ofInt 0)), (11, .long q37), (10, .int q27), (0, .ref 0), (1, .int v1), (2, .int v2), (3, .int v3), (4, .int v4), (5, .int v5), (6, .int v6), (7, .long v7)] := hk57
                refine py_its (pc := 191) (pc1 := 59) (lv1 := lv56) (st1 := []) 1 (fun _ _ _ _ => rfl) ?_
                exact ih v6 v7 (v9 + Int32.ofInt (-1)) q32.2 lv56 _ hS35 ⟨lk_find hk57 rfl, lk_find hk57 rfl, lk_find hk57 rfl, lk_find hk57 rfl, lk_find hk57 rfl, lk_find hk57 rfl, lk_find hk57 rfl, lk_find hk57 rfl, lk_find hk57 rfl, trivial⟩ h
            | false =>
              have h := cd_f hb46 h
              refine py_lc (pc := 141) (len := 1) false rfl rfl hb46 ?_
              refine py_il (pc := 145) (len := 2) (j := 10) rfl hk45 rfl ?_
              refine py_st (pc := 147) (mi := mi_I_bitCount) (N := mm_I_bitCount) rfl rfl rfl (Nat.le_of_ble_eq_true rfl) (Nat.le_of_ble_eq_true rfl) rfl rfl (nm_bc_C q27 q32.2) ?_
              show px_Y mm_X_best 150 lv44 [.int (nm_bc q27)] q32.2 _ _
              refine py_il (pc := 150) (len := 2) (j := 6) rfl hk45 rfl ?_
              refine py_st (pc := 152) (mi := mi_I_bitCount) (N := mm_I_bitCount) rfl rfl rfl (Nat.le_of_ble_eq_true rfl) (Nat.le_of_ble_eq_true rfl) rfl rfl (nm_bc_C v6 q32.2) ?_
              show px_Y mm_X_best 155 lv44 [.int (nm_bc v6), .int (nm_bc q27)] q32.2 _ _
              cases hb58 : px_cmp .gt (nm_bc q27) (nm_bc v6) with
              | true =>
                have h := cd_t hb58 h
                refine py_ic (pc := 155) (len := 3) true rfl hb58 ?_
                refine py_its (pc := 162) (pc1 := 163) (lv1 := lv44) (st1 := [.int (Int32.ofInt 0)]) 1 (fun _ _ _ _ => rfl) ?_
                refine py_sti (pc := 163) (len := 2) (j := 14) rfl rfl hk45 (fun lv59 hk60 => ?_)
                have hk60 : lk lv59 [(14, .int (Int32.ofInt 0)), (13, .int (Int32.ofInt 0)), (11, .long q37), (10, .int q27), (0, .ref 0), (1, .int v1), (2, .int v2), (3, .int v3), (4, .int v4), (5, .int v5), (6, .int v6), (7, .long v7), (9, .int v9)] := hk60
                refine py_il (pc := 165) (len := 2) (j := 6) rfl hk60 rfl ?_
                cases hb61 : px_cmp .lt v6 0 with
                | true =>
                  have h := cd_t hb61 h
                  refine py_if (pc := 167) (len := 3) true rfl hb61 ?_
                  refine py_il (pc := 180) (len := 2) (j := 10) rfl hk60 rfl ?_
                  refine py_sti (pc := 182) (len := 2) (j := 6) rfl rfl hk60 (fun lv62 hk63 => ?_)
                  have hk63 : lk lv62 [(6, .int q27), (14, .int (Int32.ofInt 0)), (13, .int (Int32.ofInt 0)), (11, .long q37), (10, .int q27), (0, .ref 0), (1, .int v1), (2, .int v2), (3, .int v3), (4, .int v4), (5, .int v5), (7, .long v7), (9, .int v9)] := hk63
                  refine py_ll (pc := 184) (len := 2) (j := 11) rfl hk63 rfl ?_
                  refine py_stl (pc := 186) (len := 2) (j := 7) rfl rfl hk63 (fun lv64 hk65 => ?_)
                  have hk65 : lk lv64 [(7, .long q37), (6, .int q27), (14, .int (Int32.ofInt 0)), (13, .int (Int32.ofInt 0)), (11, .long q37), (10, .int q27), (0, .ref 0), (1, .int v1), (2, .int v2), (3, .int v3), (4, .int v4), (5, .int v5), (9, .int v9)] := hk65
                  refine py_inc (pc := 188) (len := 3) (j := 9) (n := (-1)) rfl rfl hk65 rfl (fun lv66 hk67 => ?_)
                  have hk67 : lk lv66 [(9, .int (v9 + Int32.ofInt (-1))), (7, .long q37), (6, .int q27), (14, .int (Int32.ofInt 0)), (13, .int (Int32.ofInt 0)), (11, .long q37), (10, .int q27), (0, .ref 0), (1, .int v1), (2, .int v2), (3, .int v3), (4, .int v4), (5, .int v5)] := hk67
                  refine py_its (pc := 191) (pc1 := 59) (lv1 := lv66) (st1 := []) 1 (fun _ _ _ _ => rfl) ?_
                  exact ih q27 q37 (v9 + Int32.ofInt (-1)) q32.2 lv66 _ hS35 ⟨lk_find hk67 rfl, lk_find hk67 rfl, lk_find hk67 rfl, lk_find hk67 rfl, lk_find hk67 rfl, lk_find hk67 rfl, lk_find hk67 rfl, lk_find hk67 rfl, lk_find hk67 rfl, trivial⟩ h
                | false =>
                  have h := cd_f hb61 h
                  refine py_if (pc := 167) (len := 3) false rfl hb61 ?_
                  refine py_il (pc := 170) (len := 2) (j := 13) rfl hk60 rfl ?_
                  refine py_if (pc := 172) (len := 3) false rfl (by decide) ?_
                  refine py_il (pc := 175) (len := 2) (j := 14) rfl hk60 rfl ?_
                  refine py_if (pc := 177) (len := 3) true rfl (by decide) ?_
                  refine py_inc (pc := 188) (len := 3) (j := 9) (n := (-1)) rfl rfl hk60 rfl (fun lv68 hk69 => ?_)
                  have hk69 : lk lv68 [(9, .int (v9 + Int32.ofInt (-1))), (14, .int (Int32.ofInt 0)), (13, .int (Int32.ofInt 0)), (11, .long q37), (10, .int q27), (0, .ref 0), (1, .int v1), (2, .int v2), (3, .int v3), (4, .int v4), (5, .int v5), (6, .int v6), (7, .long v7)] := hk69
                  refine py_its (pc := 191) (pc1 := 59) (lv1 := lv68) (st1 := []) 1 (fun _ _ _ _ => rfl) ?_
                  exact ih v6 v7 (v9 + Int32.ofInt (-1)) q32.2 lv68 _ hS35 ⟨lk_find hk69 rfl, lk_find hk69 rfl, lk_find hk69 rfl, lk_find hk69 rfl, lk_find hk69 rfl, lk_find hk69 rfl, lk_find hk69 rfl, lk_find hk69 rfl, lk_find hk69 rfl, trivial⟩ h
              | false =>
                have h := cd_f hb58 h
                refine py_ic (pc := 155) (len := 3) false rfl hb58 ?_
                refine py_its (pc := 158) (pc1 := 163) (lv1 := lv44) (st1 := [.int (Int32.ofInt 1)]) 2 (fun _ _ _ _ => rfl) ?_
                refine py_sti (pc := 163) (len := 2) (j := 14) rfl rfl hk45 (fun lv70 hk71 => ?_)
                have hk71 : lk lv70 [(14, .int (Int32.ofInt 1)), (13, .int (Int32.ofInt 0)), (11, .long q37), (10, .int q27), (0, .ref 0), (1, .int v1), (2, .int v2), (3, .int v3), (4, .int v4), (5, .int v5), (6, .int v6), (7, .long v7), (9, .int v9)] := hk71
                refine py_il (pc := 165) (len := 2) (j := 6) rfl hk71 rfl ?_
                cases hb72 : px_cmp .lt v6 0 with
                | true =>
                  have h := cd_t hb72 h
                  refine py_if (pc := 167) (len := 3) true rfl hb72 ?_
                  refine py_il (pc := 180) (len := 2) (j := 10) rfl hk71 rfl ?_
                  refine py_sti (pc := 182) (len := 2) (j := 6) rfl rfl hk71 (fun lv73 hk74 => ?_)
                  have hk74 : lk lv73 [(6, .int q27), (14, .int (Int32.ofInt 1)), (13, .int (Int32.ofInt 0)), (11, .long q37), (10, .int q27), (0, .ref 0), (1, .int v1), (2, .int v2), (3, .int v3), (4, .int v4), (5, .int v5), (7, .long v7), (9, .int v9)] := hk74
                  refine py_ll (pc := 184) (len := 2) (j := 11) rfl hk74 rfl ?_
                  refine py_stl (pc := 186) (len := 2) (j := 7) rfl rfl hk74 (fun lv75 hk76 => ?_)
                  have hk76 : lk lv75 [(7, .long q37), (6, .int q27), (14, .int (Int32.ofInt 1)), (13, .int (Int32.ofInt 0)), (11, .long q37), (10, .int q27), (0, .ref 0), (1, .int v1), (2, .int v2), (3, .int v3), (4, .int v4), (5, .int v5), (9, .int v9)] := hk76
                  refine py_inc (pc := 188) (len := 3) (j := 9) (n := (-1)) rfl rfl hk76 rfl (fun lv77 hk78 => ?_)
                  have hk78 : lk lv77 [(9, .int (v9 + Int32.ofInt (-1))), (7, .long q37), (6, .int q27), (14, .int (Int32.ofInt 1)), (13, .int (Int32.ofInt 0)), (11, .long q37), (10, .int q27), (0, .ref 0), (1, .int v1), (2, .int v2), (3, .int v3), (4, .int v4), (5, .int v5)] := hk78
                  refine py_its (pc := 191) (pc1 := 59) (lv1 := lv77) (st1 := []) 1 (fun _ _ _ _ => rfl) ?_
                  exact ih q27 q37 (v9 + Int32.ofInt (-1)) q32.2 lv77 _ hS35 ⟨lk_find hk78 rfl, lk_find hk78 rfl, lk_find hk78 rfl, lk_find hk78 rfl, lk_find hk78 rfl, lk_find hk78 rfl, lk_find hk78 rfl, lk_find hk78 rfl, lk_find hk78 rfl, trivial⟩ h
                | false =>
                  have h := cd_f hb72 h
                  refine py_if (pc := 167) (len := 3) false rfl hb72 ?_
                  refine py_il (pc := 170) (len := 2) (j := 13) rfl hk71 rfl ?_
                  refine py_if (pc := 172) (len := 3) false rfl (by decide) ?_
                  refine py_il (pc := 175) (len := 2) (j := 14) rfl hk71 rfl ?_
                  refine py_if (pc := 177) (len := 3) false rfl (by decide) ?_
                  refine py_il (pc := 180) (len := 2) (j := 10) rfl hk71 rfl ?_
                  refine py_sti (pc := 182) (len := 2) (j := 6) rfl rfl hk71 (fun lv79 hk80 => ?_)
                  have hk80 : lk lv79 [(6, .int q27), (14, .int (Int32.ofInt 1)), (13, .int (Int32.ofInt 0)), (11, .long q37), (10, .int q27), (0, .ref 0), (1, .int v1), (2, .int v2), (3, .int v3), (4, .int v4), (5, .int v5), (7, .long v7), (9, .int v9)] := hk80
                  refine py_ll (pc := 184) (len := 2) (j := 11) rfl hk80 rfl ?_
                  refine py_stl (pc := 186) (len := 2) (j := 7) rfl rfl hk80 (fun lv81 hk82 => ?_)
                  have hk82 : lk lv81 [(7, .long q37), (6, .int q27), (14, .int (Int32.ofInt 1)), (13, .int (Int32.ofInt 0)), (11, .long q37), (10, .int q27), (0, .ref 0), (1, .int v1), (2, .int v2), (3, .int v3), (4, .int v4), (5, .int v5), (9, .int v9)] := hk82
                  refine py_inc (pc := 188) (len := 3) (j := 9) (n := (-1)) rfl rfl hk82 rfl (fun lv83 hk84 => ?_)
                  have hk84 : lk lv83 [(9, .int (v9 + Int32.ofInt (-1))), (7, .long q37), (6, .int q27), (14, .int (Int32.ofInt 1)), (13, .int (Int32.ofInt 0)), (11, .long q37), (10, .int q27), (0, .ref 0), (1, .int v1), (2, .int v2), (3, .int v3), (4, .int v4), (5, .int v5)] := hk84
                  refine py_its (pc := 191) (pc1 := 59) (lv1 := lv83) (st1 := []) 1 (fun _ _ _ _ => rfl) ?_
                  exact ih q27 q37 (v9 + Int32.ofInt (-1)) q32.2 lv83 _ hS35 ⟨lk_find hk84 rfl, lk_find hk84 rfl, lk_find hk84 rfl, lk_find hk84 rfl, lk_find hk84 rfl, lk_find hk84 rfl, lk_find hk84 rfl, lk_find hk84 rfl, lk_find hk84 rfl, trivial⟩ h
          | false =>
            have h := cd_f hb43 h
            refine py_lc (pc := 126) (len := 1) false rfl rfl hb43 ?_
            refine py_its (pc := 130) (pc1 := 135) (lv1 := lv40) (st1 := [.int (Int32.ofInt 1)]) 2 (fun _ _ _ _ => rfl) ?_
            refine py_sti (pc := 135) (len := 2) (j := 13) rfl rfl hk41 (fun lv85 hk86 => ?_)
            have hk86 : lk lv85 [(13, .int (Int32.ofInt 1)), (11, .long q37), (10, .int q27), (0, .ref 0), (1, .int v1), (2, .int v2), (3, .int v3), (4, .int v4), (5, .int v5), (6, .int v6), (7, .long v7), (9, .int v9)] := hk86
            refine py_ll (pc := 137) (len := 2) (j := 11) rfl hk86 rfl ?_
            refine py_ll (pc := 139) (len := 2) (j := 7) rfl hk86 rfl ?_
            cases hb87 : px_cmp .ne (lg_cmp q37 v7) 0 with
            | true =>
              have h := cd_t hb87 h
              refine py_lc (pc := 141) (len := 1) true rfl rfl hb87 ?_
              refine py_its (pc := 162) (pc1 := 163) (lv1 := lv85) (st1 := [.int (Int32.ofInt 0)]) 1 (fun _ _ _ _ => rfl) ?_
              refine py_sti (pc := 163) (len := 2) (j := 14) rfl rfl hk86 (fun lv88 hk89 => ?_)
              have hk89 : lk lv88 [(14, .int (Int32.ofInt 0)), (13, .int (Int32.ofInt 1)), (11, .long q37), (10, .int q27), (0, .ref 0), (1, .int v1), (2, .int v2), (3, .int v3), (4, .int v4), (5, .int v5), (6, .int v6), (7, .long v7), (9, .int v9)] := hk89
              refine py_il (pc := 165) (len := 2) (j := 6) rfl hk89 rfl ?_
              cases hb90 : px_cmp .lt v6 0 with
              | true =>
                have h := cd_t hb90 h
                refine py_if (pc := 167) (len := 3) true rfl hb90 ?_
                refine py_il (pc := 180) (len := 2) (j := 10) rfl hk89 rfl ?_
                refine py_sti (pc := 182) (len := 2) (j := 6) rfl rfl hk89 (fun lv91 hk92 => ?_)
                have hk92 : lk lv91 [(6, .int q27), (14, .int (Int32.ofInt 0)), (13, .int (Int32.ofInt 1)), (11, .long q37), (10, .int q27), (0, .ref 0), (1, .int v1), (2, .int v2), (3, .int v3), (4, .int v4), (5, .int v5), (7, .long v7), (9, .int v9)] := hk92
                refine py_ll (pc := 184) (len := 2) (j := 11) rfl hk92 rfl ?_
                refine py_stl (pc := 186) (len := 2) (j := 7) rfl rfl hk92 (fun lv93 hk94 => ?_)
                have hk94 : lk lv93 [(7, .long q37), (6, .int q27), (14, .int (Int32.ofInt 0)), (13, .int (Int32.ofInt 1)), (11, .long q37), (10, .int q27), (0, .ref 0), (1, .int v1), (2, .int v2), (3, .int v3), (4, .int v4), (5, .int v5), (9, .int v9)] := hk94
                refine py_inc (pc := 188) (len := 3) (j := 9) (n := (-1)) rfl rfl hk94 rfl (fun lv95 hk96 => ?_)
                have hk96 : lk lv95 [(9, .int (v9 + Int32.ofInt (-1))), (7, .long q37), (6, .int q27), (14, .int (Int32.ofInt 0)), (13, .int (Int32.ofInt 1)), (11, .long q37), (10, .int q27), (0, .ref 0), (1, .int v1), (2, .int v2), (3, .int v3), (4, .int v4), (5, .int v5)] := hk96
                refine py_its (pc := 191) (pc1 := 59) (lv1 := lv95) (st1 := []) 1 (fun _ _ _ _ => rfl) ?_
                exact ih q27 q37 (v9 + Int32.ofInt (-1)) q32.2 lv95 _ hS35 ⟨lk_find hk96 rfl, lk_find hk96 rfl, lk_find hk96 rfl, lk_find hk96 rfl, lk_find hk96 rfl, lk_find hk96 rfl, lk_find hk96 rfl, lk_find hk96 rfl, lk_find hk96 rfl, trivial⟩ h
              | false =>
                have h := cd_f hb90 h
                refine py_if (pc := 167) (len := 3) false rfl hb90 ?_
                refine py_il (pc := 170) (len := 2) (j := 13) rfl hk89 rfl ?_
                refine py_if (pc := 172) (len := 3) true rfl (by decide) ?_
                refine py_il (pc := 180) (len := 2) (j := 10) rfl hk89 rfl ?_
                refine py_sti (pc := 182) (len := 2) (j := 6) rfl rfl hk89 (fun lv97 hk98 => ?_)
                have hk98 : lk lv97 [(6, .int q27), (14, .int (Int32.ofInt 0)), (13, .int (Int32.ofInt 1)), (11, .long q37), (10, .int q27), (0, .ref 0), (1, .int v1), (2, .int v2), (3, .int v3), (4, .int v4), (5, .int v5), (7, .long v7), (9, .int v9)] := hk98
                refine py_ll (pc := 184) (len := 2) (j := 11) rfl hk98 rfl ?_
                refine py_stl (pc := 186) (len := 2) (j := 7) rfl rfl hk98 (fun lv99 hk100 => ?_)
                have hk100 : lk lv99 [(7, .long q37), (6, .int q27), (14, .int (Int32.ofInt 0)), (13, .int (Int32.ofInt 1)), (11, .long q37), (10, .int q27), (0, .ref 0), (1, .int v1), (2, .int v2), (3, .int v3), (4, .int v4), (5, .int v5), (9, .int v9)] := hk100
                refine py_inc (pc := 188) (len := 3) (j := 9) (n := (-1)) rfl rfl hk100 rfl (fun lv101 hk102 => ?_)
                have hk102 : lk lv101 [(9, .int (v9 + Int32.ofInt (-1))), (7, .long q37), (6, .int q27), (14, .int (Int32.ofInt 0)), (13, .int (Int32.ofInt 1)), (11, .long q37), (10, .int q27), (0, .ref 0), (1, .int v1), (2, .int v2), (3, .int v3), (4, .int v4), (5, .int v5)] := hk102
                refine py_its (pc := 191) (pc1 := 59) (lv1 := lv101) (st1 := []) 1 (fun _ _ _ _ => rfl) ?_
                exact ih q27 q37 (v9 + Int32.ofInt (-1)) q32.2 lv101 _ hS35 ⟨lk_find hk102 rfl, lk_find hk102 rfl, lk_find hk102 rfl, lk_find hk102 rfl, lk_find hk102 rfl, lk_find hk102 rfl, lk_find hk102 rfl, lk_find hk102 rfl, lk_find hk102 rfl, trivial⟩ h
            | false =>
              have h := cd_f hb87 h
              refine py_lc (pc := 141) (len := 1) false rfl rfl hb87 ?_
              refine py_il (pc := 145) (len := 2) (j := 10) rfl hk86 rfl ?_
              refine py_st (pc := 147) (mi := mi_I_bitCount) (N := mm_I_bitCount) rfl rfl rfl (Nat.le_of_ble_eq_true rfl) (Nat.le_of_ble_eq_true rfl) rfl rfl (nm_bc_C q27 q32.2) ?_
              show px_Y mm_X_best 150 lv85 [.int (nm_bc q27)] q32.2 _ _
              refine py_il (pc := 150) (len := 2) (j := 6) rfl hk86 rfl ?_
              refine py_st (pc := 152) (mi := mi_I_bitCount) (N := mm_I_bitCount) rfl rfl rfl (Nat.le_of_ble_eq_true rfl) (Nat.le_of_ble_eq_true rfl) rfl rfl (nm_bc_C v6 q32.2) ?_
              show px_Y mm_X_best 155 lv85 [.int (nm_bc v6), .int (nm_bc q27)] q32.2 _ _
              cases hb103 : px_cmp .gt (nm_bc q27) (nm_bc v6) with
              | true =>
                have h := cd_t hb103 h
                refine py_ic (pc := 155) (len := 3) true rfl hb103 ?_
                refine py_its (pc := 162) (pc1 := 163) (lv1 := lv85) (st1 := [.int (Int32.ofInt 0)]) 1 (fun _ _ _ _ => rfl) ?_
                refine py_sti (pc := 163) (len := 2) (j := 14) rfl rfl hk86 (fun lv104 hk105 => ?_)
                have hk105 : lk lv104 [(14, .int (Int32.ofInt 0)), (13, .int (Int32.ofInt 1)), (11, .long q37), (10, .int q27), (0, .ref 0), (1, .int v1), (2, .int v2), (3, .int v3), (4, .int v4), (5, .int v5), (6, .int v6), (7, .long v7), (9, .int v9)] := hk105
                refine py_il (pc := 165) (len := 2) (j := 6) rfl hk105 rfl ?_
                cases hb106 : px_cmp .lt v6 0 with
                | true =>
                  have h := cd_t hb106 h
                  refine py_if (pc := 167) (len := 3) true rfl hb106 ?_
                  refine py_il (pc := 180) (len := 2) (j := 10) rfl hk105 rfl ?_
                  refine py_sti (pc := 182) (len := 2) (j := 6) rfl rfl hk105 (fun lv107 hk108 => ?_)
                  have hk108 : lk lv107 [(6, .int q27), (14, .int (Int32.ofInt 0)), (13, .int (Int32.ofInt 1)), (11, .long q37), (10, .int q27), (0, .ref 0), (1, .int v1), (2, .int v2), (3, .int v3), (4, .int v4), (5, .int v5), (7, .long v7), (9, .int v9)] := hk108
                  refine py_ll (pc := 184) (len := 2) (j := 11) rfl hk108 rfl ?_
                  refine py_stl (pc := 186) (len := 2) (j := 7) rfl rfl hk108 (fun lv109 hk110 => ?_)
                  have hk110 : lk lv109 [(7, .long q37), (6, .int q27), (14, .int (Int32.ofInt 0)), (13, .int (Int32.ofInt 1)), (11, .long q37), (10, .int q27), (0, .ref 0), (1, .int v1), (2, .int v2), (3, .int v3), (4, .int v4), (5, .int v5), (9, .int v9)] := hk110
                  refine py_inc (pc := 188) (len := 3) (j := 9) (n := (-1)) rfl rfl hk110 rfl (fun lv111 hk112 => ?_)
                  have hk112 : lk lv111 [(9, .int (v9 + Int32.ofInt (-1))), (7, .long q37), (6, .int q27), (14, .int (Int32.ofInt 0)), (13, .int (Int32.ofInt 1)), (11, .long q37), (10, .int q27), (0, .ref 0), (1, .int v1), (2, .int v2), (3, .int v3), (4, .int v4), (5, .int v5)] := hk112
                  refine py_its (pc := 191) (pc1 := 59) (lv1 := lv111) (st1 := []) 1 (fun _ _ _ _ => rfl) ?_
                  exact ih q27 q37 (v9 + Int32.ofInt (-1)) q32.2 lv111 _ hS35 ⟨lk_find hk112 rfl, lk_find hk112 rfl, lk_find hk112 rfl, lk_find hk112 rfl, lk_find hk112 rfl, lk_find hk112 rfl, lk_find hk112 rfl, lk_find hk112 rfl, lk_find hk112 rfl, trivial⟩ h
                | false =>
                  have h := cd_f hb106 h
                  refine py_if (pc := 167) (len := 3) false rfl hb106 ?_
                  refine py_il (pc := 170) (len := 2) (j := 13) rfl hk105 rfl ?_
                  refine py_if (pc := 172) (len := 3) true rfl (by decide) ?_
                  refine py_il (pc := 180) (len := 2) (j := 10) rfl hk105 rfl ?_
                  refine py_sti (pc := 182) (len := 2) (j := 6) rfl rfl hk105 (fun lv113 hk114 => ?_)
                  have hk114 : lk lv113 [(6, .int q27), (14, .int (Int32.ofInt 0)), (13, .int (Int32.ofInt 1)), (11, .long q37), (10, .int q27), (0, .ref 0), (1, .int v1), (2, .int v2), (3, .int v3), (4, .int v4), (5, .int v5), (7, .long v7), (9, .int v9)] := hk114
                  refine py_ll (pc := 184) (len := 2) (j := 11) rfl hk114 rfl ?_
                  refine py_stl (pc := 186) (len := 2) (j := 7) rfl rfl hk114 (fun lv115 hk116 => ?_)
                  have hk116 : lk lv115 [(7, .long q37), (6, .int q27), (14, .int (Int32.ofInt 0)), (13, .int (Int32.ofInt 1)), (11, .long q37), (10, .int q27), (0, .ref 0), (1, .int v1), (2, .int v2), (3, .int v3), (4, .int v4), (5, .int v5), (9, .int v9)] := hk116
                  refine py_inc (pc := 188) (len := 3) (j := 9) (n := (-1)) rfl rfl hk116 rfl (fun lv117 hk118 => ?_)
                  have hk118 : lk lv117 [(9, .int (v9 + Int32.ofInt (-1))), (7, .long q37), (6, .int q27), (14, .int (Int32.ofInt 0)), (13, .int (Int32.ofInt 1)), (11, .long q37), (10, .int q27), (0, .ref 0), (1, .int v1), (2, .int v2), (3, .int v3), (4, .int v4), (5, .int v5)] := hk118
                  refine py_its (pc := 191) (pc1 := 59) (lv1 := lv117) (st1 := []) 1 (fun _ _ _ _ => rfl) ?_
                  exact ih q27 q37 (v9 + Int32.ofInt (-1)) q32.2 lv117 _ hS35 ⟨lk_find hk118 rfl, lk_find hk118 rfl, lk_find hk118 rfl, lk_find hk118 rfl, lk_find hk118 rfl, lk_find hk118 rfl, lk_find hk118 rfl, lk_find hk118 rfl, lk_find hk118 rfl, trivial⟩ h
              | false =>
                have h := cd_f hb103 h
                refine py_ic (pc := 155) (len := 3) false rfl hb103 ?_
                refine py_its (pc := 158) (pc1 := 163) (lv1 := lv85) (st1 := [.int (Int32.ofInt 1)]) 2 (fun _ _ _ _ => rfl) ?_
                refine py_sti (pc := 163) (len := 2) (j := 14) rfl rfl hk86 (fun lv119 hk120 => ?_)
                have hk120 : lk lv119 [(14, .int (Int32.ofInt 1)), (13, .int (Int32.ofInt 1)), (11, .long q37), (10, .int q27), (0, .ref 0), (1, .int v1), (2, .int v2), (3, .int v3), (4, .int v4), (5, .int v5), (6, .int v6), (7, .long v7), (9, .int v9)] := hk120
                refine py_il (pc := 165) (len := 2) (j := 6) rfl hk120 rfl ?_
                cases hb121 : px_cmp .lt v6 0 with
                | true =>
                  have h := cd_t hb121 h
                  refine py_if (pc := 167) (len := 3) true rfl hb121 ?_
                  refine py_il (pc := 180) (len := 2) (j := 10) rfl hk120 rfl ?_
                  refine py_sti (pc := 182) (len := 2) (j := 6) rfl rfl hk120 (fun lv122 hk123 => ?_)
                  have hk123 : lk lv122 [(6, .int q27), (14, .int (Int32.ofInt 1)), (13, .int (Int32.ofInt 1)), (11, .long q37), (10, .int q27), (0, .ref 0), (1, .int v1), (2, .int v2), (3, .int v3), (4, .int v4), (5, .int v5), (7, .long v7), (9, .int v9)] := hk123
                  refine py_ll (pc := 184) (len := 2) (j := 11) rfl hk123 rfl ?_
                  refine py_stl (pc := 186) (len := 2) (j := 7) rfl rfl hk123 (fun lv124 hk125 => ?_)
                  have hk125 : lk lv124 [(7, .long q37), (6, .int q27), (14, .int (Int32.ofInt 1)), (13, .int (Int32.ofInt 1)), (11, .long q37), (10, .int q27), (0, .ref 0), (1, .int v1), (2, .int v2), (3, .int v3), (4, .int v4), (5, .int v5), (9, .int v9)] := hk125
                  refine py_inc (pc := 188) (len := 3) (j := 9) (n := (-1)) rfl rfl hk125 rfl (fun lv126 hk127 => ?_)
                  have hk127 : lk lv126 [(9, .int (v9 + Int32.ofInt (-1))), (7, .long q37), (6, .int q27), (14, .int (Int32.ofInt 1)), (13, .int (Int32.ofInt 1)), (11, .long q37), (10, .int q27), (0, .ref 0), (1, .int v1), (2, .int v2), (3, .int v3), (4, .int v4), (5, .int v5)] := hk127
                  refine py_its (pc := 191) (pc1 := 59) (lv1 := lv126) (st1 := []) 1 (fun _ _ _ _ => rfl) ?_
                  exact ih q27 q37 (v9 + Int32.ofInt (-1)) q32.2 lv126 _ hS35 ⟨lk_find hk127 rfl, lk_find hk127 rfl, lk_find hk127 rfl, lk_find hk127 rfl, lk_find hk127 rfl, lk_find hk127 rfl, lk_find hk127 rfl, lk_find hk127 rfl, lk_find hk127 rfl, trivial⟩ h
                | false =>
                  have h := cd_f hb121 h
                  refine py_if (pc := 167) (len := 3) false rfl hb121 ?_
                  refine py_il (pc := 170) (len := 2) (j := 13) rfl hk120 rfl ?_
                  refine py_if (pc := 172) (len := 3) true rfl (by decide) ?_
                  refine py_il (pc := 180) (len := 2) (j := 10) rfl hk120 rfl ?_
                  refine py_sti (pc := 182) (len := 2) (j := 6) rfl rfl hk120 (fun lv128 hk129 => ?_)
                  have hk129 : lk lv128 [(6, .int q27), (14, .int (Int32.ofInt 1)), (13, .int (Int32.ofInt 1)), (11, .long q37), (10, .int q27), (0, .ref 0), (1, .int v1), (2, .int v2), (3, .int v3), (4, .int v4), (5, .int v5), (7, .long v7), (9, .int v9)] := hk129
                  refine py_ll (pc := 184) (len := 2) (j := 11) rfl hk129 rfl ?_
                  refine py_stl (pc := 186) (len := 2) (j := 7) rfl rfl hk129 (fun lv130 hk131 => ?_)
                  have hk131 : lk lv130 [(7, .long q37), (6, .int q27), (14, .int (Int32.ofInt 1)), (13, .int (Int32.ofInt 1)), (11, .long q37), (10, .int q27), (0, .ref 0), (1, .int v1), (2, .int v2), (3, .int v3), (4, .int v4), (5, .int v5), (9, .int v9)] := hk131
                  refine py_inc (pc := 188) (len := 3) (j := 9) (n := (-1)) rfl rfl hk131 rfl (fun lv132 hk133 => ?_)
                  have hk133 : lk lv132 [(9, .int (v9 + Int32.ofInt (-1))), (7, .long q37), (6, .int q27), (14, .int (Int32.ofInt 1)), (13, .int (Int32.ofInt 1)), (11, .long q37), (10, .int q27), (0, .ref 0), (1, .int v1), (2, .int v2), (3, .int v3), (4, .int v4), (5, .int v5)] := hk133
                  refine py_its (pc := 191) (pc1 := 59) (lv1 := lv132) (st1 := []) 1 (fun _ _ _ _ => rfl) ?_
                  exact ih q27 q37 (v9 + Int32.ofInt (-1)) q32.2 lv132 _ hS35 ⟨lk_find hk133 rfl, lk_find hk133 rfl, lk_find hk133 rfl, lk_find hk133 rfl, lk_find hk133 rfl, lk_find hk133 rfl, lk_find hk133 rfl, lk_find hk133 rfl, lk_find hk133 rfl, trivial⟩ h
        | false =>
          have h := cd_f hb42 h
          refine py_if (pc := 103) (len := 3) false rfl hb42 ?_
          refine py_ll (pc := 106) (len := 2) (j := 11) rfl hk41 rfl ?_
          refine py_ll (pc := 108) (len := 2) (j := 7) rfl hk41 rfl ?_
          cases hb134 : px_cmp .le (lg_cmp q37 v7) 0 with
          | true =>
            have h := cd_t hb134 h
            refine py_lc (pc := 110) (len := 1) true rfl rfl hb134 ?_
            refine py_its (pc := 118) (pc1 := 135) (lv1 := lv40) (st1 := [.int (Int32.ofInt 0)]) 2 (fun _ _ _ _ => rfl) ?_
            refine py_sti (pc := 135) (len := 2) (j := 13) rfl rfl hk41 (fun lv135 hk136 => ?_)
            have hk136 : lk lv135 [(13, .int (Int32.ofInt 0)), (11, .long q37), (10, .int q27), (0, .ref 0), (1, .int v1), (2, .int v2), (3, .int v3), (4, .int v4), (5, .int v5), (6, .int v6), (7, .long v7), (9, .int v9)] := hk136
            refine py_ll (pc := 137) (len := 2) (j := 11) rfl hk136 rfl ?_
            refine py_ll (pc := 139) (len := 2) (j := 7) rfl hk136 rfl ?_
            cases hb137 : px_cmp .ne (lg_cmp q37 v7) 0 with
            | true =>
              have h := cd_t hb137 h
              refine py_lc (pc := 141) (len := 1) true rfl rfl hb137 ?_
              refine py_its (pc := 162) (pc1 := 163) (lv1 := lv135) (st1 := [.int (Int32.ofInt 0)]) 1 (fun _ _ _ _ => rfl) ?_
              refine py_sti (pc := 163) (len := 2) (j := 14) rfl rfl hk136 (fun lv138 hk139 => ?_)
              have hk139 : lk lv138 [(14, .int (Int32.ofInt 0)), (13, .int (Int32.ofInt 0)), (11, .long q37), (10, .int q27), (0, .ref 0), (1, .int v1), (2, .int v2), (3, .int v3), (4, .int v4), (5, .int v5), (6, .int v6), (7, .long v7), (9, .int v9)] := hk139
              refine py_il (pc := 165) (len := 2) (j := 6) rfl hk139 rfl ?_
              cases hb140 : px_cmp .lt v6 0 with
              | true =>
                have h := cd_t hb140 h
                refine py_if (pc := 167) (len := 3) true rfl hb140 ?_
                refine py_il (pc := 180) (len := 2) (j := 10) rfl hk139 rfl ?_
                refine py_sti (pc := 182) (len := 2) (j := 6) rfl rfl hk139 (fun lv141 hk142 => ?_)
                have hk142 : lk lv141 [(6, .int q27), (14, .int (Int32.ofInt 0)), (13, .int (Int32.ofInt 0)), (11, .long q37), (10, .int q27), (0, .ref 0), (1, .int v1), (2, .int v2), (3, .int v3), (4, .int v4), (5, .int v5), (7, .long v7), (9, .int v9)] := hk142
                refine py_ll (pc := 184) (len := 2) (j := 11) rfl hk142 rfl ?_
                refine py_stl (pc := 186) (len := 2) (j := 7) rfl rfl hk142 (fun lv143 hk144 => ?_)
                have hk144 : lk lv143 [(7, .long q37), (6, .int q27), (14, .int (Int32.ofInt 0)), (13, .int (Int32.ofInt 0)), (11, .long q37), (10, .int q27), (0, .ref 0), (1, .int v1), (2, .int v2), (3, .int v3), (4, .int v4), (5, .int v5), (9, .int v9)] := hk144
                refine py_inc (pc := 188) (len := 3) (j := 9) (n := (-1)) rfl rfl hk144 rfl (fun lv145 hk146 => ?_)
                have hk146 : lk lv145 [(9, .int (v9 + Int32.ofInt (-1))), (7, .long q37), (6, .int q27), (14, .int (Int32.ofInt 0)), (13, .int (Int32.ofInt 0)), (11, .long q37), (10, .int q27), (0, .ref 0), (1, .int v1), (2, .int v2), (3, .int v3), (4, .int v4), (5, .int v5)] := hk146
                refine py_its (pc := 191) (pc1 := 59) (lv1 := lv145) (st1 := []) 1 (fun _ _ _ _ => rfl) ?_
                exact ih q27 q37 (v9 + Int32.ofInt (-1)) q32.2 lv145 _ hS35 ⟨lk_find hk146 rfl, lk_find hk146 rfl, lk_find hk146 rfl, lk_find hk146 rfl, lk_find hk146 rfl, lk_find hk146 rfl, lk_find hk146 rfl, lk_find hk146 rfl, lk_find hk146 rfl, trivial⟩ h
              | false =>
                have h := cd_f hb140 h
                refine py_if (pc := 167) (len := 3) false rfl hb140 ?_
                refine py_il (pc := 170) (len := 2) (j := 13) rfl hk139 rfl ?_
                refine py_if (pc := 172) (len := 3) false rfl (by decide) ?_
                refine py_il (pc := 175) (len := 2) (j := 14) rfl hk139 rfl ?_
                refine py_if (pc := 177) (len := 3) true rfl (by decide) ?_
                refine py_inc (pc := 188) (len := 3) (j := 9) (n := (-1)) rfl rfl hk139 rfl (fun lv147 hk148 => ?_)
                have hk148 : lk lv147 [(9, .int (v9 + Int32.ofInt (-1))), (14, .int (Int32.ofInt 0)), (13, .int (Int32.ofInt 0)), (11, .long q37), (10, .int q27), (0, .ref 0), (1, .int v1), (2, .int v2), (3, .int v3), (4, .int v4), (5, .int v5), (6, .int v6), (7, .long v7)] := hk148
                refine py_its (pc := 191) (pc1 := 59) (lv1 := lv147) (st1 := []) 1 (fun _ _ _ _ => rfl) ?_
                exact ih v6 v7 (v9 + Int32.ofInt (-1)) q32.2 lv147 _ hS35 ⟨lk_find hk148 rfl, lk_find hk148 rfl, lk_find hk148 rfl, lk_find hk148 rfl, lk_find hk148 rfl, lk_find hk148 rfl, lk_find hk148 rfl, lk_find hk148 rfl, lk_find hk148 rfl, trivial⟩ h
            | false =>
              have h := cd_f hb137 h
              refine py_lc (pc := 141) (len := 1) false rfl rfl hb137 ?_
              refine py_il (pc := 145) (len := 2) (j := 10) rfl hk136 rfl ?_
              refine py_st (pc := 147) (mi := mi_I_bitCount) (N := mm_I_bitCount) rfl rfl rfl (Nat.le_of_ble_eq_true rfl) (Nat.le_of_ble_eq_true rfl) rfl rfl (nm_bc_C q27 q32.2) ?_
              show px_Y mm_X_best 150 lv135 [.int (nm_bc q27)] q32.2 _ _
              refine py_il (pc := 150) (len := 2) (j := 6) rfl hk136 rfl ?_
              refine py_st (pc := 152) (mi := mi_I_bitCount) (N := mm_I_bitCount) rfl rfl rfl (Nat.le_of_ble_eq_true rfl) (Nat.le_of_ble_eq_true rfl) rfl rfl (nm_bc_C v6 q32.2) ?_
              show px_Y mm_X_best 155 lv135 [.int (nm_bc v6), .int (nm_bc q27)] q32.2 _ _
              cases hb149 : px_cmp .gt (nm_bc q27) (nm_bc v6) with
              | true =>
                have h := cd_t hb149 h
                refine py_ic (pc := 155) (len := 3) true rfl hb149 ?_
                refine py_its (pc := 162) (pc1 := 163) (lv1 := lv135) (st1 := [.int (Int32.ofInt 0)]) 1 (fun _ _ _ _ => rfl) ?_
                refine py_sti (pc := 163) (len := 2) (j := 14) rfl rfl hk136 (fun lv150 hk151 => ?_)
                have hk151 : lk lv150 [(14, .int (Int32.ofInt 0)), (13, .int (Int32.ofInt 0)), (11, .long q37), (10, .int q27), (0, .ref 0), (1, .int v1), (2, .int v2), (3, .int v3), (4, .int v4), (5, .int v5), (6, .int v6), (7, .long v7), (9, .int v9)] := hk151
                refine py_il (pc := 165) (len := 2) (j := 6) rfl hk151 rfl ?_
                cases hb152 : px_cmp .lt v6 0 with
                | true =>
                  have h := cd_t hb152 h
                  refine py_if (pc := 167) (len := 3) true rfl hb152 ?_
                  refine py_il (pc := 180) (len := 2) (j := 10) rfl hk151 rfl ?_
                  refine py_sti (pc := 182) (len := 2) (j := 6) rfl rfl hk151 (fun lv153 hk154 => ?_)
                  have hk154 : lk lv153 [(6, .int q27), (14, .int (Int32.ofInt 0)), (13, .int (Int32.ofInt 0)), (11, .long q37), (10, .int q27), (0, .ref 0), (1, .int v1), (2, .int v2), (3, .int v3), (4, .int v4), (5, .int v5), (7, .long v7), (9, .int v9)] := hk154
                  refine py_ll (pc := 184) (len := 2) (j := 11) rfl hk154 rfl ?_
                  refine py_stl (pc := 186) (len := 2) (j := 7) rfl rfl hk154 (fun lv155 hk156 => ?_)
                  have hk156 : lk lv155 [(7, .long q37), (6, .int q27), (14, .int (Int32.ofInt 0)), (13, .int (Int32.ofInt 0)), (11, .long q37), (10, .int q27), (0, .ref 0), (1, .int v1), (2, .int v2), (3, .int v3), (4, .int v4), (5, .int v5), (9, .int v9)] := hk156
                  refine py_inc (pc := 188) (len := 3) (j := 9) (n := (-1)) rfl rfl hk156 rfl (fun lv157 hk158 => ?_)
                  have hk158 : lk lv157 [(9, .int (v9 + Int32.ofInt (-1))), (7, .long q37), (6, .int q27), (14, .int (Int32.ofInt 0)), (13, .int (Int32.ofInt 0)), (11, .long q37), (10, .int q27), (0, .ref 0), (1, .int v1), (2, .int v2), (3, .int v3), (4, .int v4), (5, .int v5)] := hk158
                  refine py_its (pc := 191) (pc1 := 59) (lv1 := lv157) (st1 := []) 1 (fun _ _ _ _ => rfl) ?_
                  exact ih q27 q37 (v9 + Int32.ofInt (-1)) q32.2 lv157 _ hS35 ⟨lk_find hk158 rfl, lk_find hk158 rfl, lk_find hk158 rfl, lk_find hk158 rfl, lk_find hk158 rfl, lk_find hk158 rfl, lk_find hk158 rfl, lk_find hk158 rfl, lk_find hk158 rfl, trivial⟩ h
                | false =>
                  have h := cd_f hb152 h
                  refine py_if (pc := 167) (len := 3) false rfl hb152 ?_
                  refine py_il (pc := 170) (len := 2) (j := 13) rfl hk151 rfl ?_
                  refine py_if (pc := 172) (len := 3) false rfl (by decide) ?_
                  refine py_il (pc := 175) (len := 2) (j := 14) rfl hk151 rfl ?_
                  refine py_if (pc := 177) (len := 3) true rfl (by decide) ?_
                  refine py_inc (pc := 188) (len := 3) (j := 9) (n := (-1)) rfl rfl hk151 rfl (fun lv159 hk160 => ?_)
                  have hk160 : lk lv159 [(9, .int (v9 + Int32.ofInt (-1))), (14, .int (Int32.ofInt 0)), (13, .int (Int32.ofInt 0)), (11, .long q37), (10, .int q27), (0, .ref 0), (1, .int v1), (2, .int v2), (3, .int v3), (4, .int v4), (5, .int v5), (6, .int v6), (7, .long v7)] := hk160
                  refine py_its (pc := 191) (pc1 := 59) (lv1 := lv159) (st1 := []) 1 (fun _ _ _ _ => rfl) ?_
                  exact ih v6 v7 (v9 + Int32.ofInt (-1)) q32.2 lv159 _ hS35 ⟨lk_find hk160 rfl, lk_find hk160 rfl, lk_find hk160 rfl, lk_find hk160 rfl, lk_find hk160 rfl, lk_find hk160 rfl, lk_find hk160 rfl, lk_find hk160 rfl, lk_find hk160 rfl, trivial⟩ h
              | false =>
                have h := cd_f hb149 h
                refine py_ic (pc := 155) (len := 3) false rfl hb149 ?_
                refine py_its (pc := 158) (pc1 := 163) (lv1 := lv135) (st1 := [.int (Int32.ofInt 1)]) 2 (fun _ _ _ _ => rfl) ?_
                refine py_sti (pc := 163) (len := 2) (j := 14) rfl rfl hk136 (fun lv161 hk162 => ?_)
                have hk162 : lk lv161 [(14, .int (Int32.ofInt 1)), (13, .int (Int32.ofInt 0)), (11, .long q37), (10, .int q27), (0, .ref 0), (1, .int v1), (2, .int v2), (3, .int v3), (4, .int v4), (5, .int v5), (6, .int v6), (7, .long v7), (9, .int v9)] := hk162
                refine py_il (pc := 165) (len := 2) (j := 6) rfl hk162 rfl ?_
                cases hb163 : px_cmp .lt v6 0 with
                | true =>
                  have h := cd_t hb163 h
                  refine py_if (pc := 167) (len := 3) true rfl hb163 ?_
                  refine py_il (pc := 180) (len := 2) (j := 10) rfl hk162 rfl ?_
                  refine py_sti (pc := 182) (len := 2) (j := 6) rfl rfl hk162 (fun lv164 hk165 => ?_)
                  have hk165 : lk lv164 [(6, .int q27), (14, .int (Int32.ofInt 1)), (13, .int (Int32.ofInt 0)), (11, .long q37), (10, .int q27), (0, .ref 0), (1, .int v1), (2, .int v2), (3, .int v3), (4, .int v4), (5, .int v5), (7, .long v7), (9, .int v9)] := hk165
                  refine py_ll (pc := 184) (len := 2) (j := 11) rfl hk165 rfl ?_
                  refine py_stl (pc := 186) (len := 2) (j := 7) rfl rfl hk165 (fun lv166 hk167 => ?_)
                  have hk167 : lk lv166 [(7, .long q37), (6, .int q27), (14, .int (Int32.ofInt 1)), (13, .int (Int32.ofInt 0)), (11, .long q37), (10, .int q27), (0, .ref 0), (1, .int v1), (2, .int v2), (3, .int v3), (4, .int v4), (5, .int v5), (9, .int v9)] := hk167
                  refine py_inc (pc := 188) (len := 3) (j := 9) (n := (-1)) rfl rfl hk167 rfl (fun lv168 hk169 => ?_)
                  have hk169 : lk lv168 [(9, .int (v9 + Int32.ofInt (-1))), (7, .long q37), (6, .int q27), (14, .int (Int32.ofInt 1)), (13, .int (Int32.ofInt 0)), (11, .long q37), (10, .int q27), (0, .ref 0), (1, .int v1), (2, .int v2), (3, .int v3), (4, .int v4), (5, .int v5)] := hk169
                  refine py_its (pc := 191) (pc1 := 59) (lv1 := lv168) (st1 := []) 1 (fun _ _ _ _ => rfl) ?_
                  exact ih q27 q37 (v9 + Int32.ofInt (-1)) q32.2 lv168 _ hS35 ⟨lk_find hk169 rfl, lk_find hk169 rfl, lk_find hk169 rfl, lk_find hk169 rfl, lk_find hk169 rfl, lk_find hk169 rfl, lk_find hk169 rfl, lk_find hk169 rfl, lk_find hk169 rfl, trivial⟩ h
                | false =>
                  have h := cd_f hb163 h
                  refine py_if (pc := 167) (len := 3) false rfl hb163 ?_
                  refine py_il (pc := 170) (len := 2) (j := 13) rfl hk162 rfl ?_
                  refine py_if (pc := 172) (len := 3) false rfl (by decide) ?_
                  refine py_il (pc := 175) (len := 2) (j := 14) rfl hk162 rfl ?_
                  refine py_if (pc := 177) (len := 3) false rfl (by decide) ?_
                  refine py_il (pc := 180) (len := 2) (j := 10) rfl hk162 rfl ?_
                  refine py_sti (pc := 182) (len := 2) (j := 6) rfl rfl hk162 (fun lv170 hk171 => ?_)
                  have hk171 : lk lv170 [(6, .int q27), (14, .int (Int32.ofInt 1)), (13, .int (Int32.ofInt 0)), (11, .long q37), (10, .int q27), (0, .ref 0), (1, .int v1), (2, .int v2), (3, .int v3), (4, .int v4), (5, .int v5), (7, .long v7), (9, .int v9)] := hk171
                  refine py_ll (pc := 184) (len := 2) (j := 11) rfl hk171 rfl ?_
                  refine py_stl (pc := 186) (len := 2) (j := 7) rfl rfl hk171 (fun lv172 hk173 => ?_)
                  have hk173 : lk lv172 [(7, .long q37), (6, .int q27), (14, .int (Int32.ofInt 1)), (13, .int (Int32.ofInt 0)), (11, .long q37), (10, .int q27), (0, .ref 0), (1, .int v1), (2, .int v2), (3, .int v3), (4, .int v4), (5, .int v5), (9, .int v9)] := hk173
                  refine py_inc (pc := 188) (len := 3) (j := 9) (n := (-1)) rfl rfl hk173 rfl (fun lv174 hk175 => ?_)
                  have hk175 : lk lv174 [(9, .int (v9 + Int32.ofInt (-1))), (7, .long q37), (6, .int q27), (14, .int (Int32.ofInt 1)), (13, .int (Int32.ofInt 0)), (11, .long q37), (10, .int q27), (0, .ref 0), (1, .int v1), (2, .int v2), (3, .int v3), (4, .int v4), (5, .int v5)] := hk175
                  refine py_its (pc := 191) (pc1 := 59) (lv1 := lv174) (st1 := []) 1 (fun _ _ _ _ => rfl) ?_
                  exact ih q27 q37 (v9 + Int32.ofInt (-1)) q32.2 lv174 _ hS35 ⟨lk_find hk175 rfl, lk_find hk175 rfl, lk_find hk175 rfl, lk_find hk175 rfl, lk_find hk175 rfl, lk_find hk175 rfl, lk_find hk175 rfl, lk_find hk175 rfl, lk_find hk175 rfl, trivial⟩ h
          | false =>
            have h := cd_f hb134 h
            refine py_lc (pc := 110) (len := 1) false rfl rfl hb134 ?_
            refine py_its (pc := 114) (pc1 := 135) (lv1 := lv40) (st1 := [.int (Int32.ofInt 1)]) 2 (fun _ _ _ _ => rfl) ?_
            refine py_sti (pc := 135) (len := 2) (j := 13) rfl rfl hk41 (fun lv176 hk177 => ?_)
            have hk177 : lk lv176 [(13, .int (Int32.ofInt 1)), (11, .long q37), (10, .int q27), (0, .ref 0), (1, .int v1), (2, .int v2), (3, .int v3), (4, .int v4), (5, .int v5), (6, .int v6), (7, .long v7), (9, .int v9)] := hk177
            refine py_ll (pc := 137) (len := 2) (j := 11) rfl hk177 rfl ?_
            refine py_ll (pc := 139) (len := 2) (j := 7) rfl hk177 rfl ?_
            cases hb178 : px_cmp .ne (lg_cmp q37 v7) 0 with
            | true =>
              have h := cd_t hb178 h
              refine py_lc (pc := 141) (len := 1) true rfl rfl hb178 ?_
              refine py_its (pc := 162) (pc1 := 163) (lv1 := lv176) (st1 := [.int (Int32.ofInt 0)]) 1 (fun _ _ _ _ => rfl) ?_
              refine py_sti (pc := 163) (len := 2) (j := 14) rfl rfl hk177 (fun lv179 hk180 => ?_)
              have hk180 : lk lv179 [(14, .int (Int32.ofInt 0)), (13, .int (Int32.ofInt 1)), (11, .long q37), (10, .int q27), (0, .ref 0), (1, .int v1), (2, .int v2), (3, .int v3), (4, .int v4), (5, .int v5), (6, .int v6), (7, .long v7), (9, .int v9)] := hk180
              refine py_il (pc := 165) (len := 2) (j := 6) rfl hk180 rfl ?_
              cases hb181 : px_cmp .lt v6 0 with
              | true =>
                have h := cd_t hb181 h
                refine py_if (pc := 167) (len := 3) true rfl hb181 ?_
                refine py_il (pc := 180) (len := 2) (j := 10) rfl hk180 rfl ?_
                refine py_sti (pc := 182) (len := 2) (j := 6) rfl rfl hk180 (fun lv182 hk183 => ?_)
                have hk183 : lk lv182 [(6, .int q27), (14, .int (Int32.ofInt 0)), (13, .int (Int32.ofInt 1)), (11, .long q37), (10, .int q27), (0, .ref 0), (1, .int v1), (2, .int v2), (3, .int v3), (4, .int v4), (5, .int v5), (7, .long v7), (9, .int v9)] := hk183
                refine py_ll (pc := 184) (len := 2) (j := 11) rfl hk183 rfl ?_
                refine py_stl (pc := 186) (len := 2) (j := 7) rfl rfl hk183 (fun lv184 hk185 => ?_)
                have hk185 : lk lv184 [(7, .long q37), (6, .int q27), (14, .int (Int32.ofInt 0)), (13, .int (Int32.ofInt 1)), (11, .long q37), (10, .int q27), (0, .ref 0), (1, .int v1), (2, .int v2), (3, .int v3), (4, .int v4), (5, .int v5), (9, .int v9)] := hk185
                refine py_inc (pc := 188) (len := 3) (j := 9) (n := (-1)) rfl rfl hk185 rfl (fun lv186 hk187 => ?_)
                have hk187 : lk lv186 [(9, .int (v9 + Int32.ofInt (-1))), (7, .long q37), (6, .int q27), (14, .int (Int32.ofInt 0)), (13, .int (Int32.ofInt 1)), (11, .long q37), (10, .int q27), (0, .ref 0), (1, .int v1), (2, .int v2), (3, .int v3), (4, .int v4), (5, .int v5)] := hk187
                refine py_its (pc := 191) (pc1 := 59) (lv1 := lv186) (st1 := []) 1 (fun _ _ _ _ => rfl) ?_
                exact ih q27 q37 (v9 + Int32.ofInt (-1)) q32.2 lv186 _ hS35 ⟨lk_find hk187 rfl, lk_find hk187 rfl, lk_find hk187 rfl, lk_find hk187 rfl, lk_find hk187 rfl, lk_find hk187 rfl, lk_find hk187 rfl, lk_find hk187 rfl, lk_find hk187 rfl, trivial⟩ h
              | false =>
                have h := cd_f hb181 h
                refine py_if (pc := 167) (len := 3) false rfl hb181 ?_
                refine py_il (pc := 170) (len := 2) (j := 13) rfl hk180 rfl ?_
                refine py_if (pc := 172) (len := 3) true rfl (by decide) ?_
                refine py_il (pc := 180) (len := 2) (j := 10) rfl hk180 rfl ?_
                refine py_sti (pc := 182) (len := 2) (j := 6) rfl rfl hk180 (fun lv188 hk189 => ?_)
                have hk189 : lk lv188 [(6, .int q27), (14, .int (Int32.ofInt 0)), (13, .int (Int32.ofInt 1)), (11, .long q37), (10, .int q27), (0, .ref 0), (1, .int v1), (2, .int v2), (3, .int v3), (4, .int v4), (5, .int v5), (7, .long v7), (9, .int v9)] := hk189
                refine py_ll (pc := 184) (len := 2) (j := 11) rfl hk189 rfl ?_
                refine py_stl (pc := 186) (len := 2) (j := 7) rfl rfl hk189 (fun lv190 hk191 => ?_)
                have hk191 : lk lv190 [(7, .long q37), (6, .int q27), (14, .int (Int32.ofInt 0)), (13, .int (Int32.ofInt 1)), (11, .long q37), (10, .int q27), (0, .ref 0), (1, .int v1), (2, .int v2), (3, .int v3), (4, .int v4), (5, .int v5), (9, .int v9)] := hk191
                refine py_inc (pc := 188) (len := 3) (j := 9) (n := (-1)) rfl rfl hk191 rfl (fun lv192 hk193 => ?_)
                have hk193 : lk lv192 [(9, .int (v9 + Int32.ofInt (-1))), (7, .long q37), (6, .int q27), (14, .int (Int32.ofInt 0)), (13, .int (Int32.ofInt 1)), (11, .long q37), (10, .int q27), (0, .ref 0), (1, .int v1), (2, .int v2), (3, .int v3), (4, .int v4), (5, .int v5)] := hk193
                refine py_its (pc := 191) (pc1 := 59) (lv1 := lv192) (st1 := []) 1 (fun _ _ _ _ => rfl) ?_
                exact ih q27 q37 (v9 + Int32.ofInt (-1)) q32.2 lv192 _ hS35 ⟨lk_find hk193 rfl, lk_find hk193 rfl, lk_find hk193 rfl, lk_find hk193 rfl, lk_find hk193 rfl, lk_find hk193 rfl, lk_find hk193 rfl, lk_find hk193 rfl, lk_find hk193 rfl, trivial⟩ h
            | false =>
              have h := cd_f hb178 h
              refine py_lc (pc := 141) (len := 1) false rfl rfl hb178 ?_
              refine py_il (pc := 145) (len := 2) (j := 10) rfl hk177 rfl ?_
              refine py_st (pc := 147) (mi := mi_I_bitCount) (N := mm_I_bitCount) rfl rfl rfl (Nat.le_of_ble_eq_true rfl) (Nat.le_of_ble_eq_true rfl) rfl rfl (nm_bc_C q27 q32.2) ?_
              show px_Y mm_X_best 150 lv176 [.int (nm_bc q27)] q32.2 _ _
              refine py_il (pc := 150) (len := 2) (j := 6) rfl hk177 rfl ?_
              refine py_st (pc := 152) (mi := mi_I_bitCount) (N := mm_I_bitCount) rfl rfl rfl (Nat.le_of_ble_eq_true rfl) (Nat.le_of_ble_eq_true rfl) rfl rfl (nm_bc_C v6 q32.2) ?_
              show px_Y mm_X_best 155 lv176 [.int (nm_bc v6), .int (nm_bc q27)] q32.2 _ _
              cases hb194 : px_cmp .gt (nm_bc q27) (nm_bc v6) with
              | true =>
                have h := cd_t hb194 h
                refine py_ic (pc := 155) (len := 3) true rfl hb194 ?_
                refine py_its (pc := 162) (pc1 := 163) (lv1 := lv176) (st1 := [.int (Int32.ofInt 0)]) 1 (fun _ _ _ _ => rfl) ?_
                refine py_sti (pc := 163) (len := 2) (j := 14) rfl rfl hk177 (fun lv195 hk196 => ?_)
                have hk196 : lk lv195 [(14, .int (Int32.ofInt 0)), (13, .int (Int32.ofInt 1)), (11, .long q37), (10, .int q27), (0, .ref 0), (1, .int v1), (2, .int v2), (3, .int v3), (4, .int v4), (5, .int v5), (6, .int v6), (7, .long v7), (9, .int v9)] := hk196
                refine py_il (pc := 165) (len := 2) (j := 6) rfl hk196 rfl ?_
                cases hb197 : px_cmp .lt v6 0 with
                | true =>
                  have h := cd_t hb197 h
                  refine py_if (pc := 167) (len := 3) true rfl hb197 ?_
                  refine py_il (pc := 180) (len := 2) (j := 10) rfl hk196 rfl ?_
                  refine py_sti (pc := 182) (len := 2) (j := 6) rfl rfl hk196 (fun lv198 hk199 => ?_)
                  have hk199 : lk lv198 [(6, .int q27), (14, .int (Int32.ofInt 0)), (13, .int (Int32.ofInt 1)), (11, .long q37), (10, .int q27), (0, .ref 0), (1, .int v1), (2, .int v2), (3, .int v3), (4, .int v4), (5, .int v5), (7, .long v7), (9, .int v9)] := hk199
                  refine py_ll (pc := 184) (len := 2) (j := 11) rfl hk199 rfl ?_
                  refine py_stl (pc := 186) (len := 2) (j := 7) rfl rfl hk199 (fun lv200 hk201 => ?_)
                  have hk201 : lk lv200 [(7, .long q37), (6, .int q27), (14, .int (Int32.ofInt 0)), (13, .int (Int32.ofInt 1)), (11, .long q37), (10, .int q27), (0, .ref 0), (1, .int v1), (2, .int v2), (3, .int v3), (4, .int v4), (5, .int v5), (9, .int v9)] := hk201
                  refine py_inc (pc := 188) (len := 3) (j := 9) (n := (-1)) rfl rfl hk201 rfl (fun lv202 hk203 => ?_)
                  have hk203 : lk lv202 [(9, .int (v9 + Int32.ofInt (-1))), (7, .long q37), (6, .int q27), (14, .int (Int32.ofInt 0)), (13, .int (Int32.ofInt 1)), (11, .long q37), (10, .int q27), (0, .ref 0), (1, .int v1), (2, .int v2), (3, .int v3), (4, .int v4), (5, .int v5)] := hk203
                  refine py_its (pc := 191) (pc1 := 59) (lv1 := lv202) (st1 := []) 1 (fun _ _ _ _ => rfl) ?_
                  exact ih q27 q37 (v9 + Int32.ofInt (-1)) q32.2 lv202 _ hS35 ⟨lk_find hk203 rfl, lk_find hk203 rfl, lk_find hk203 rfl, lk_find hk203 rfl, lk_find hk203 rfl, lk_find hk203 rfl, lk_find hk203 rfl, lk_find hk203 rfl, lk_find hk203 rfl, trivial⟩ h
                | false =>
                  have h := cd_f hb197 h
                  refine py_if (pc := 167) (len := 3) false rfl hb197 ?_
                  refine py_il (pc := 170) (len := 2) (j := 13) rfl hk196 rfl ?_
                  refine py_if (pc := 172) (len := 3) true rfl (by decide) ?_
                  refine py_il (pc := 180) (len := 2) (j := 10) rfl hk196 rfl ?_
                  refine py_sti (pc := 182) (len := 2) (j := 6) rfl rfl hk196 (fun lv204 hk205 => ?_)
                  have hk205 : lk lv204 [(6, .int q27), (14, .int (Int32.ofInt 0)), (13, .int (Int32.ofInt 1)), (11, .long q37), (10, .int q27), (0, .ref 0), (1, .int v1), (2, .int v2), (3, .int v3), (4, .int v4), (5, .int v5), (7, .long v7), (9, .int v9)] := hk205
                  refine py_ll (pc := 184) (len := 2) (j := 11) rfl hk205 rfl ?_
                  refine py_stl (pc := 186) (len := 2) (j := 7) rfl rfl hk205 (fun lv206 hk207 => ?_)
                  have hk207 : lk lv206 [(7, .long q37), (6, .int q27), (14, .int (Int32.ofInt 0)), (13, .int (Int32.ofInt 1)), (11, .long q37), (10, .int q27), (0, .ref 0), (1, .int v1), (2, .int v2), (3, .int v3), (4, .int v4), (5, .int v5), (9, .int v9)] := hk207
                  refine py_inc (pc := 188) (len := 3) (j := 9) (n := (-1)) rfl rfl hk207 rfl (fun lv208 hk209 => ?_)
                  have hk209 : lk lv208 [(9, .int (v9 + Int32.ofInt (-1))), (7, .long q37), (6, .int q27), (14, .int (Int32.ofInt 0)), (13, .int (Int32.ofInt 1)), (11, .long q37), (10, .int q27), (0, .ref 0), (1, .int v1), (2, .int v2), (3, .int v3), (4, .int v4), (5, .int v5)] := hk209
                  refine py_its (pc := 191) (pc1 := 59) (lv1 := lv208) (st1 := []) 1 (fun _ _ _ _ => rfl) ?_
                  exact ih q27 q37 (v9 + Int32.ofInt (-1)) q32.2 lv208 _ hS35 ⟨lk_find hk209 rfl, lk_find hk209 rfl, lk_find hk209 rfl, lk_find hk209 rfl, lk_find hk209 rfl, lk_find hk209 rfl, lk_find hk209 rfl, lk_find hk209 rfl, lk_find hk209 rfl, trivial⟩ h
              | false =>
                have h := cd_f hb194 h
                refine py_ic (pc := 155) (len := 3) false rfl hb194 ?_
                refine py_its (pc := 158) (pc1 := 163) (lv1 := lv176) (st1 := [.int (Int32.ofInt 1)]) 2 (fun _ _ _ _ => rfl) ?_
                refine py_sti (pc := 163) (len := 2) (j := 14) rfl rfl hk177 (fun lv210 hk211 => ?_)
                have hk211 : lk lv210 [(14, .int (Int32.ofInt 1)), (13, .int (Int32.ofInt 1)), (11, .long q37), (10, .int q27), (0, .ref 0), (1, .int v1), (2, .int v2), (3, .int v3), (4, .int v4), (5, .int v5), (6, .int v6), (7, .long v7), (9, .int v9)] := hk211
                refine py_il (pc := 165) (len := 2) (j := 6) rfl hk211 rfl ?_
                cases hb212 : px_cmp .lt v6 0 with
                | true =>
                  have h := cd_t hb212 h
                  refine py_if (pc := 167) (len := 3) true rfl hb212 ?_
                  refine py_il (pc := 180) (len := 2) (j := 10) rfl hk211 rfl ?_
                  refine py_sti (pc := 182) (len := 2) (j := 6) rfl rfl hk211 (fun lv213 hk214 => ?_)
                  have hk214 : lk lv213 [(6, .int q27), (14, .int (Int32.ofInt 1)), (13, .int (Int32.ofInt 1)), (11, .long q37), (10, .int q27), (0, .ref 0), (1, .int v1), (2, .int v2), (3, .int v3), (4, .int v4), (5, .int v5), (7, .long v7), (9, .int v9)] := hk214
                  refine py_ll (pc := 184) (len := 2) (j := 11) rfl hk214 rfl ?_
                  refine py_stl (pc := 186) (len := 2) (j := 7) rfl rfl hk214 (fun lv215 hk216 => ?_)
                  have hk216 : lk lv215 [(7, .long q37), (6, .int q27), (14, .int (Int32.ofInt 1)), (13, .int (Int32.ofInt 1)), (11, .long q37), (10, .int q27), (0, .ref 0), (1, .int v1), (2, .int v2), (3, .int v3), (4, .int v4), (5, .int v5), (9, .int v9)] := hk216
                  refine py_inc (pc := 188) (len := 3) (j := 9) (n := (-1)) rfl rfl hk216 rfl (fun lv217 hk218 => ?_)
                  have hk218 : lk lv217 [(9, .int (v9 + Int32.ofInt (-1))), (7, .long q37), (6, .int q27), (14, .int (Int32.ofInt 1)), (13, .int (Int32.ofInt 1)), (11, .long q37), (10, .int q27), (0, .ref 0), (1, .int v1), (2, .int v2), (3, .int v3), (4, .int v4), (5, .int v5)] := hk218
                  refine py_its (pc := 191) (pc1 := 59) (lv1 := lv217) (st1 := []) 1 (fun _ _ _ _ => rfl) ?_
                  exact ih q27 q37 (v9 + Int32.ofInt (-1)) q32.2 lv217 _ hS35 ⟨lk_find hk218 rfl, lk_find hk218 rfl, lk_find hk218 rfl, lk_find hk218 rfl, lk_find hk218 rfl, lk_find hk218 rfl, lk_find hk218 rfl, lk_find hk218 rfl, lk_find hk218 rfl, trivial⟩ h
                | false =>
                  have h := cd_f hb212 h
                  refine py_if (pc := 167) (len := 3) false rfl hb212 ?_
                  refine py_il (pc := 170) (len := 2) (j := 13) rfl hk211 rfl ?_
                  refine py_if (pc := 172) (len := 3) true rfl (by decide) ?_
                  refine py_il (pc := 180) (len := 2) (j := 10) rfl hk211 rfl ?_
                  refine py_sti (pc := 182) (len := 2) (j := 6) rfl rfl hk211 (fun lv219 hk220 => ?_)
                  have hk220 : lk lv219 [(6, .int q27), (14, .int (Int32.ofInt 1)), (13, .int (Int32.ofInt 1)), (11, .long q37), (10, .int q27), (0, .ref 0), (1, .int v1), (2, .int v2), (3, .int v3), (4, .int v4), (5, .int v5), (7, .long v7), (9, .int v9)] := hk220
                  refine py_ll (pc := 184) (len := 2) (j := 11) rfl hk220 rfl ?_
                  refine py_stl (pc := 186) (len := 2) (j := 7) rfl rfl hk220 (fun lv221 hk222 => ?_)
                  have hk222 : lk lv221 [(7, .long q37), (6, .int q27), (14, .int (Int32.ofInt 1)), (13, .int (Int32.ofInt 1)), (11, .long q37), (10, .int q27), (0, .ref 0), (1, .int v1), (2, .int v2), (3, .int v3), (4, .int v4), (5, .int v5), (9, .int v9)] := hk222
                  refine py_inc (pc := 188) (len := 3) (j := 9) (n := (-1)) rfl rfl hk222 rfl (fun lv223 hk224 => ?_)
                  have hk224 : lk lv223 [(9, .int (v9 + Int32.ofInt (-1))), (7, .long q37), (6, .int q27), (14, .int (Int32.ofInt 1)), (13, .int (Int32.ofInt 1)), (11, .long q37), (10, .int q27), (0, .ref 0), (1, .int v1), (2, .int v2), (3, .int v3), (4, .int v4), (5, .int v5)] := hk224
                  refine py_its (pc := 191) (pc1 := 59) (lv1 := lv223) (st1 := []) 1 (fun _ _ _ _ => rfl) ?_
                  exact ih q27 q37 (v9 + Int32.ofInt (-1)) q32.2 lv223 _ hS35 ⟨lk_find hk224 rfl, lk_find hk224 rfl, lk_find hk224 rfl, lk_find hk224 rfl, lk_find hk224 rfl, lk_find hk224 rfl, lk_find hk224 rfl, lk_find hk224 rfl, lk_find hk224 rfl, trivial⟩ h
      | false =>
        have h := cd_f hb36 h
        refine py_if (pc := 83) (len := 3) false rfl hb36 ?_
        refine py_its (pc := 86) (pc1 := 88) (lv1 := lv30) (st1 := [.int (Int8.ofInt (-3)).toInt32]) 1 (fun _ _ _ _ => rfl) ?_
        have h := Option.some.inj h
        subst h
        exact py_ir (pc := 88) (len := 1) (ty := .int) rfl rfl rfl hS35
noncomputable def fn_X_best (a1 : Int32) (a2 : Int32) (a3 : Int32) (a4 : Int32) (a5 : Int32) (hp : px_H) : Option (Int32 × px_H) :=
  (fn_X_canPack a1 a2 hp).bind fun q1 =>
  bif px_cmp .eq q1 0 then
    some ((Int32.ofInt (-1)), hp)
  else
    (fn_Town_hasPerson a3 hp).bind fun q5 =>
    bif px_cmp .eq q5 0 then
      some ((Int32.ofInt (-1)), hp)
    else
      (fn_Town_hasDrawing a4 hp).bind fun q9 =>
      bif px_cmp .ne q9 0 then
        bif px_cmp .lt a5 0 then
          some ((Int32.ofInt (-1)), hp)
        else
          bif px_cmp .le a5 (Int32.ofInt 1) then
            (fn_X_fullestWay a2 hp).bind fun q15 =>
            fn_X_best_L59 a1 a2 a3 a4 a5 fu (Int32.ofInt (-1)) (Int64.ofNat 0) q15 hp
          else
            some ((Int32.ofInt (-1)), hp)
      else
        some ((Int32.ofInt (-1)), hp)
theorem fx_X_best {a1 : Int32} {a2 : Int32} {a3 : Int32} {a4 : Int32} {a5 : Int32} {hp : px_H} {res : Int32 × px_H} (hS : oS hp) (h : fn_X_best a1 a2 a3 a4 a5 hp = some res) : px_C nm_T nm_P mi_X_best [.ref 0, .int a1, .int a2, .int a3, .int a4, .int a5] hp (some (.int res.1)) res.2 ∧ oS res.2 := by
  unfold fn_X_best at h
  refine py_C (M := mm_X_best) rfl (Nat.le_of_ble_eq_true rfl) ?_
  show px_Y mm_X_best 0 [(0, .ref 0), (1, .int a1), (2, .int a2), (3, .int a3), (4, .int a4), (5, .int a5)] [] hp _ _
  refine py_its (pc := 0) (pc1 := 3) (lv1 := [(0, .ref 0), (1, .int a1), (2, .int a2), (3, .int a3), (4, .int a4), (5, .int a5)]) (st1 := [.int a2, .int a1, .ref 0]) 3 (fun _ _ _ _ => rfl) ?_
  obtain ⟨q1, hq2, h⟩ := bd_e h
  have hC3 := (fx_X_canPack hS hq2).1
  refine py_vi (pc := 3) (mi := mi_X_canPack) (cs := [0]) (N := mm_X_canPack) rfl rfl rfl rfl List.mem_cons_self hS rfl (Nat.le_of_ble_eq_true rfl) (Nat.le_of_ble_eq_true rfl) rfl rfl hC3 ?_
  show px_Y mm_X_best 6 [(0, .ref 0), (1, .int a1), (2, .int a2), (3, .int a3), (4, .int a4), (5, .int a5)] [.int q1] hp _ _
  cases hb4 : px_cmp .eq q1 0 with
  | true =>
    have h := cd_t hb4 h
    refine py_if (pc := 6) (len := 3) true rfl hb4 ?_
    refine py_its (pc := 32) (pc1 := 33) (lv1 := [(0, .ref 0), (1, .int a1), (2, .int a2), (3, .int a3), (4, .int a4), (5, .int a5)]) (st1 := [.int (Int32.ofInt (-1))]) 1 (fun _ _ _ _ => rfl) ?_
    have h := Option.some.inj h
    subst h
    exact py_ir (pc := 33) (len := 1) (ty := .int) rfl rfl rfl hS
  | false =>
    have h := cd_f hb4 h
    refine py_if (pc := 6) (len := 3) false rfl hb4 ?_
    refine py_its (pc := 9) (pc1 := 10) (lv1 := [(0, .ref 0), (1, .int a1), (2, .int a2), (3, .int a3), (4, .int a4), (5, .int a5)]) (st1 := [.ref 0]) 1 (fun _ _ _ _ => rfl) ?_
    refine py_g1 1 (pc := 10) (len := 3) (cs := [0]) rfl rfl rfl List.mem_cons_self hS ?_
    refine py_its (pc := 13) (pc1 := 14) (lv1 := [(0, .ref 0), (1, .int a1), (2, .int a2), (3, .int a3), (4, .int a4), (5, .int a5)]) (st1 := [.int a3, .ref 1]) 1 (fun _ _ _ _ => rfl) ?_
    obtain ⟨q5, hq6, h⟩ := bd_e h
    have hC7 := (fx_Town_hasPerson hS hq6).1
    refine py_vi (pc := 14) (mi := mi_Town_hasPerson) (cs := [1]) (N := mm_Town_hasPerson) rfl rfl rfl rfl List.mem_cons_self hS rfl (Nat.le_of_ble_eq_true rfl) (Nat.le_of_ble_eq_true rfl) rfl rfl hC7 ?_
    show px_Y mm_X_best 17 [(0, .ref 0), (1, .int a1), (2, .int a2), (3, .int a3), (4, .int a4), (5, .int a5)] [.int q5] hp _ _
    cases hb8 : px_cmp .eq q5 0 with
    | true =>
      have h := cd_t hb8 h
      refine py_if (pc := 17) (len := 3) true rfl hb8 ?_
      refine py_its (pc := 32) (pc1 := 33) (lv1 := [(0, .ref 0), (1, .int a1), (2, .int a2), (3, .int a3), (4, .int a4), (5, .int a5)]) (st1 := [.int (Int32.ofInt (-1))]) 1 (fun _ _ _ _ => rfl) ?_
      have h := Option.some.inj h
      subst h
      exact py_ir (pc := 33) (len := 1) (ty := .int) rfl rfl rfl hS
    | false =>
      have h := cd_f hb8 h
      refine py_if (pc := 17) (len := 3) false rfl hb8 ?_
      refine py_its (pc := 20) (pc1 := 21) (lv1 := [(0, .ref 0), (1, .int a1), (2, .int a2), (3, .int a3), (4, .int a4), (5, .int a5)]) (st1 := [.ref 0]) 1 (fun _ _ _ _ => rfl) ?_
      refine py_g1 1 (pc := 21) (len := 3) (cs := [0]) rfl rfl rfl List.mem_cons_self hS ?_
      refine py_its (pc := 24) (pc1 := 26) (lv1 := [(0, .ref 0), (1, .int a1), (2, .int a2), (3, .int a3), (4, .int a4), (5, .int a5)]) (st1 := [.int a4, .ref 1]) 1 (fun _ _ _ _ => rfl) ?_
      obtain ⟨q9, hq10, h⟩ := bd_e h
      have hC11 := (fx_Town_hasDrawing hS hq10).1
      refine py_vi (pc := 26) (mi := mi_Town_hasDrawing) (cs := [1]) (N := mm_Town_hasDrawing) rfl rfl rfl rfl List.mem_cons_self hS rfl (Nat.le_of_ble_eq_true rfl) (Nat.le_of_ble_eq_true rfl) rfl rfl hC11 ?_
      show px_Y mm_X_best 29 [(0, .ref 0), (1, .int a1), (2, .int a2), (3, .int a3), (4, .int a4), (5, .int a5)] [.int q9] hp _ _
      cases hb12 : px_cmp .ne q9 0 with
      | true =>
        have h := cd_t hb12 h
        refine py_if (pc := 29) (len := 3) true rfl hb12 ?_
        refine py_its (pc := 34) (pc1 := 36) (lv1 := [(0, .ref 0), (1, .int a1), (2, .int a2), (3, .int a3), (4, .int a4), (5, .int a5)]) (st1 := [.int a5]) 1 (fun _ _ _ _ => rfl) ?_
        cases hb13 : px_cmp .lt a5 0 with
        | true =>
          have h := cd_t hb13 h
          refine py_if (pc := 36) (len := 3) true rfl hb13 ?_
          refine py_its (pc := 45) (pc1 := 46) (lv1 := [(0, .ref 0), (1, .int a1), (2, .int a2), (3, .int a3), (4, .int a4), (5, .int a5)]) (st1 := [.int (Int32.ofInt (-1))]) 1 (fun _ _ _ _ => rfl) ?_
          have h := Option.some.inj h
          subst h
          exact py_ir (pc := 46) (len := 1) (ty := .int) rfl rfl rfl hS
        | false =>
          have h := cd_f hb13 h
          refine py_if (pc := 36) (len := 3) false rfl hb13 ?_
          refine py_its (pc := 39) (pc1 := 42) (lv1 := [(0, .ref 0), (1, .int a1), (2, .int a2), (3, .int a3), (4, .int a4), (5, .int a5)]) (st1 := [.int (Int32.ofInt 1), .int a5]) 2 (fun _ _ _ _ => rfl) ?_
          cases hb14 : px_cmp .le a5 (Int32.ofInt 1) with
          | true =>
            have h := cd_t hb14 h
            refine py_ic (pc := 42) (len := 3) true rfl hb14 ?_
            refine py_its (pc := 47) (pc1 := 54) (lv1 := [(7, .long (Int64.ofNat 0)), (6, .int (Int32.ofInt (-1))), (0, .ref 0), (1, .int a1), (2, .int a2), (3, .int a3), (4, .int a4), (5, .int a5)]) (st1 := [.int a2]) 5 (fun _ _ _ _ => rfl) ?_
            obtain ⟨q15, hq16, h⟩ := bd_e h
            have hC17 := (fx_X_fullestWay hS hq16).1
            refine py_st (pc := 54) (mi := mi_X_fullestWay) (N := mm_X_fullestWay) rfl rfl rfl (Nat.le_of_ble_eq_true rfl) (Nat.le_of_ble_eq_true rfl) rfl rfl hC17 ?_
            show px_Y mm_X_best 57 [(7, .long (Int64.ofNat 0)), (6, .int (Int32.ofInt (-1))), (0, .ref 0), (1, .int a1), (2, .int a2), (3, .int a3), (4, .int a4), (5, .int a5)] [.int q15] hp _ _
            refine py_its (pc := 57) (pc1 := 59) (lv1 := [(9, .int q15), (7, .long (Int64.ofNat 0)), (6, .int (Int32.ofInt (-1))), (0, .ref 0), (1, .int a1), (2, .int a2), (3, .int a3), (4, .int a4), (5, .int a5)]) (st1 := []) 1 (fun _ _ _ _ => rfl) ?_
            exact fl_X_best_L59 fu (Int32.ofInt (-1)) (Int64.ofNat 0) q15 hp [(9, .int q15), (7, .long (Int64.ofNat 0)), (6, .int (Int32.ofInt (-1))), (0, .ref 0), (1, .int a1), (2, .int a2), (3, .int a3), (4, .int a4), (5, .int a5)] _ hS ⟨rfl, rfl, rfl, rfl, rfl, rfl, rfl, rfl, rfl, trivial⟩ h
          | false =>
            have h := cd_f hb14 h
            refine py_ic (pc := 42) (len := 3) false rfl hb14 ?_
            refine py_its (pc := 45) (pc1 := 46) (lv1 := [(0, .ref 0), (1, .int a1), (2, .int a2), (3, .int a3), (4, .int a4), (5, .int a5)]) (st1 := [.int (Int32.ofInt (-1))]) 1 (fun _ _ _ _ => rfl) ?_
            have h := Option.some.inj h
            subst h
            exact py_ir (pc := 46) (len := 1) (ty := .int) rfl rfl rfl hS
      | false =>
        have h := cd_f hb12 h
        refine py_if (pc := 29) (len := 3) false rfl hb12 ?_
        refine py_its (pc := 32) (pc1 := 33) (lv1 := [(0, .ref 0), (1, .int a1), (2, .int a2), (3, .int a3), (4, .int a4), (5, .int a5)]) (st1 := [.int (Int32.ofInt (-1))]) 1 (fun _ _ _ _ => rfl) ?_
        have h := Option.some.inj h
        subst h
        exact py_ir (pc := 33) (len := 1) (ty := .int) rfl rfl rfl hS
/-! Walk_mayFill -/
noncomputable def fb_Walk_mayFill_L2 (v1 : Int32) (hp : px_H) (rc : Int32 → Option (Int32)) (v2 : Int32) : Option (Int32) :=
  bif px_cmp .ge v2 (gI hp (gR hp 28 2) 3) then
    some (Int32.ofInt 0)
  else
    (fn_Table_sittingAt (gR hp 28 2) v2 hp).bind fun q4 =>
    bif px_cmp .ne (nm_bc q4) v1 then
      rc (v2 + Int32.ofInt 1)
    else
      some (Int32.ofInt 1)
noncomputable def fn_Walk_mayFill_L2 (v1 : Int32) (hp : px_H) : Nat → Int32 → Option (Int32)
  | 0 => fun _ => none
  | n + 1 => fb_Walk_mayFill_L2 v1 hp (fn_Walk_mayFill_L2 v1 hp n)
theorem fl_Walk_mayFill_L2 {v1 : Int32} {hp : px_H}  : ∀ (n : Nat) (v2 : Int32) (lv : List (Nat × Value)) (res : Int32), oS hp → lk lv [(0, .ref 28), (1, .int v1), (2, .int v2)] → fn_Walk_mayFill_L2 v1 hp n v2 = some res → px_Y mm_Walk_mayFill 2 lv [] hp (some (.int res)) hp := by
  intro n
  induction n with
  | zero =>
    intro v2 lv res hS hk h
    cases h
  | succ n ih =>
    intro v2 lv res hS hk h
    have h : fb_Walk_mayFill_L2 v1 hp (fn_Walk_mayFill_L2 v1 hp n) v2 = some res := h
    unfold fb_Walk_mayFill_L2 at h
    refine py_iln (pc := 2) (len := 1) (j := 2) rfl hk rfl ?_
    refine py_aln (pc := 3) (len := 1) (j := 0) rfl hk rfl ?_
    refine py_gR [29, 35, 41] (pc := 4) (len := 3) (cs := [28]) rfl rfl rfl List.mem_cons_self hS (fun hm1 => ?_)
    refine py_gI (pc := 7) (len := 3) (cs := [29, 35, 41]) rfl rfl rfl hm1 hS ?_
    cases hb2 : px_cmp .ge v2 (gI hp (gR hp 28 2) 3) with
    | true =>
      have h := cd_t hb2 h
      refine py_ic (pc := 10) (len := 3) true rfl hb2 ?_
      refine py_its (pc := 36) (pc1 := 37) (lv1 := lv) (st1 := [.int (Int32.ofInt 0)]) 1 (fun _ _ _ _ => rfl) ?_
      have h := Option.some.inj h
      subst h
      exact py_ir (pc := 37) (len := 1) (ty := .boolean) rfl rfl (by decide) hS
    | false =>
      have h := cd_f hb2 h
      refine py_ic (pc := 10) (len := 3) false rfl hb2 ?_
      refine py_aln (pc := 13) (len := 1) (j := 0) rfl hk rfl ?_
      refine py_gR [29, 35, 41] (pc := 14) (len := 3) (cs := [28]) rfl rfl rfl List.mem_cons_self hS (fun hm3 => ?_)
      refine py_iln (pc := 17) (len := 1) (j := 2) rfl hk rfl ?_
      obtain ⟨q4, hq5, h⟩ := bd_e h
      have hC6 := (fx_Table_sittingAt hm3 hS hq5).1
      refine py_vi (pc := 18) (mi := mi_Table_sittingAt) (cs := [29, 35, 41]) (N := mm_Table_sittingAt) rfl rfl rfl rfl hm3 hS rfl (Nat.le_of_ble_eq_true rfl) (Nat.le_of_ble_eq_true rfl) rfl rfl hC6 ?_
      show px_Y mm_Walk_mayFill 21 lv [.int q4] hp _ _
      refine py_st (pc := 21) (mi := mi_I_bitCount) (N := mm_I_bitCount) rfl rfl rfl (Nat.le_of_ble_eq_true rfl) (Nat.le_of_ble_eq_true rfl) rfl rfl (nm_bc_C q4 hp) ?_
      show px_Y mm_Walk_mayFill 24 lv [.int (nm_bc q4)] hp _ _
      refine py_iln (pc := 24) (len := 1) (j := 1) rfl hk rfl ?_
      cases hb7 : px_cmp .ne (nm_bc q4) v1 with
      | true =>
        have h := cd_t hb7 h
        refine py_ic (pc := 25) (len := 3) true rfl hb7 ?_
        refine py_inc (pc := 30) (len := 3) (j := 2) (n := 1) rfl rfl hk rfl (fun lv8 hk9 => ?_)
        have hk9 : lk lv8 [(2, .int (v2 + Int32.ofInt 1)), (0, .ref 28), (1, .int v1)] := hk9
        refine py_its (pc := 33) (pc1 := 2) (lv1 := lv8) (st1 := []) 1 (fun _ _ _ _ => rfl) ?_
        exact ih (v2 + Int32.ofInt 1) lv8 _ hS ⟨lk_find hk9 rfl, lk_find hk9 rfl, lk_find hk9 rfl, trivial⟩ h
      | false =>
        have h := cd_f hb7 h
        refine py_ic (pc := 25) (len := 3) false rfl hb7 ?_
        refine py_its (pc := 28) (pc1 := 29) (lv1 := lv) (st1 := [.int (Int32.ofInt 1)]) 1 (fun _ _ _ _ => rfl) ?_
        have h := Option.some.inj h
        subst h
        exact py_ir (pc := 29) (len := 1) (ty := .boolean) rfl rfl (by decide) hS
noncomputable def fn_Walk_mayFill (a1 : Int32) (hp : px_H) : Option (Int32) :=
  fn_Walk_mayFill_L2 a1 hp fu (Int32.ofInt 0)
theorem fx_Walk_mayFill {a1 : Int32} {hp : px_H} {res : Int32} (hS : oS hp) (h : fn_Walk_mayFill a1 hp = some res) : px_C nm_T nm_P mi_Walk_mayFill [.ref 28, .int a1] hp (some (.int res)) hp ∧ oS hp := by
  unfold fn_Walk_mayFill at h
  refine py_C (M := mm_Walk_mayFill) rfl (Nat.le_of_ble_eq_true rfl) ?_
  show px_Y mm_Walk_mayFill 0 [(0, .ref 28), (1, .int a1)] [] hp _ _
  refine py_its (pc := 0) (pc1 := 2) (lv1 := [(2, .int (Int32.ofInt 0)), (0, .ref 28), (1, .int a1)]) (st1 := []) 2 (fun _ _ _ _ => rfl) ?_
  exact fl_Walk_mayFill_L2 fu (Int32.ofInt 0) [(2, .int (Int32.ofInt 0)), (0, .ref 28), (1, .int a1)] _ hS ⟨rfl, rfl, rfl, trivial⟩ h
/-! X_never -/
noncomputable def fb_X_never_L67 (v1 : Int32) (v2 : Int32) (v4 : Int32) (v5 : Int32) (v6 : Int32) (rc : Int32 → Int32 → Int32 → px_H → Option (Int32 × px_H)) (v7 : Int32) (v8 : Int32) (v9 : Int32) (hp : px_H) : Option (Int32 × px_H) :=
  bif px_cmp .lt v9 0 then
    (fn_Row_clear hp).bind fun q19 =>
    bif px_cmp .le v7 0 then
      some (v7, q19)
    else
      (fn_Row_tell v8.toInt64 q19).bind fun q24 =>
      some (v7, q24)
  else
    (fn_X_packing v1 v2 v9 hp).bind fun q28 =>
    (fn_X_walkPacked v1 q28 v4 hp).bind fun q33 =>
    bif px_cmp .ne q33.1 0 then
      (fn_Walk_whoMaySit q33.2).bind fun q38 =>
      bif px_cmp .ne (q38 &&& v5) 0 then
        rc v7 v8 (v9 + Int32.ofInt (-1)) q33.2
      else
        (fn_Walk_mayFill v6 q33.2).bind fun q44 =>
        bif px_cmp .eq q44 0 then
          rc v7 v8 (v9 + Int32.ofInt (-1)) q33.2
        else
          bif px_cmp .lt v8 0 then
            rc (v7 + Int32.ofInt 1) q28 (v9 + Int32.ofInt (-1)) q33.2
          else
            bif px_cmp .lt (nm_bc q28) (nm_bc v8) then
              rc (v7 + Int32.ofInt 1) v8 (v9 + Int32.ofInt (-1)) q33.2
            else
              rc (v7 + Int32.ofInt 1) q28 (v9 + Int32.ofInt (-1)) q33.2
    else
      some ((Int8.ofInt (-3)).toInt32, q33.2)
noncomputable def fn_X_never_L67 (v1 : Int32) (v2 : Int32) (v4 : Int32) (v5 : Int32) (v6 : Int32) : Nat → Int32 → Int32 → Int32 → px_H → Option (Int32 × px_H)
  | 0 => fun _ _ _ _ => none
  | n + 1 => fb_X_never_L67 v1 v2 v4 v5 v6 (fn_X_never_L67 v1 v2 v4 v5 v6 n)
theorem fl_X_never_L67 {v1 : Int32} {v2 : Int32} {v4 : Int32} {v5 : Int32} {v6 : Int32}  : ∀ (n : Nat) (v7 : Int32) (v8 : Int32) (v9 : Int32) (hp : px_H) (lv : List (Nat × Value)) (res : Int32 × px_H), oS hp → lk lv [(0, .ref 0), (1, .int v1), (2, .int v2), (4, .int v4), (5, .int v5), (6, .int v6), (7, .int v7), (8, .int v8), (9, .int v9)] → fn_X_never_L67 v1 v2 v4 v5 v6 n v7 v8 v9 hp = some res → px_Y mm_X_never 67 lv [] hp (some (.int res.1)) res.2 := by
  intro n
  induction n with
  | zero =>
    intro v7 v8 v9 hp lv res hS hk h
    cases h
  | succ n ih =>
    intro v7 v8 v9 hp lv res hS hk h
    have h : fb_X_never_L67 v1 v2 v4 v5 v6 (fn_X_never_L67 v1 v2 v4 v5 v6 n) v7 v8 v9 hp = some res := h
    unfold fb_X_never_L67 at h
    refine py_il (pc := 67) (len := 2) (j := 9) rfl hk rfl ?_
    cases hb18 : px_cmp .lt v9 0 with
    | true =>
      have h := cd_t hb18 h
      refine py_if (pc := 69) (len := 3) true rfl hb18 ?_
      refine py_aln (pc := 153) (len := 1) (j := 0) rfl hk rfl ?_
      refine py_g1 48 (pc := 154) (len := 3) (cs := [0]) rfl rfl rfl List.mem_cons_self hS ?_
      obtain ⟨q19, hq20, h⟩ := bd_e h
      obtain ⟨hC21, hS22⟩ := fx_Row_clear hS hq20
      refine py_vi (pc := 157) (mi := mi_Row_clear) (cs := [48]) (N := mm_Row_clear) rfl rfl rfl rfl List.mem_cons_self hS rfl (Nat.le_of_ble_eq_true rfl) (Nat.le_of_ble_eq_true rfl) rfl rfl hC21 ?_
      show px_Y mm_X_never 160 lv [] q19 _ _
      refine py_il (pc := 160) (len := 2) (j := 7) rfl hk rfl ?_
      cases hb23 : px_cmp .le v7 0 with
      | true =>
        have h := cd_t hb23 h
        refine py_if (pc := 162) (len := 3) true rfl hb23 ?_
        refine py_il (pc := 175) (len := 2) (j := 7) rfl hk rfl ?_
        have h := Option.some.inj h
        subst h
        exact py_ir (pc := 177) (len := 1) (ty := .int) rfl rfl rfl hS22
      | false =>
        have h := cd_f hb23 h
        refine py_if (pc := 162) (len := 3) false rfl hb23 ?_
        refine py_aln (pc := 165) (len := 1) (j := 0) rfl hk rfl ?_
        refine py_g1 48 (pc := 166) (len := 3) (cs := [0]) rfl rfl rfl List.mem_cons_self hS22 ?_
        refine py_il (pc := 169) (len := 2) (j := 8) rfl hk rfl ?_
        refine py_its (pc := 171) (pc1 := 172) (lv1 := lv) (st1 := [.long v8.toInt64, .ref 48]) 1 (fun _ _ _ _ => rfl) ?_
        obtain ⟨q24, hq25, h⟩ := bd_e h
        obtain ⟨hC26, hS27⟩ := fx_Row_tell hS22 hq25
        refine py_vi (pc := 172) (mi := mi_Row_tell) (cs := [48]) (N := mm_Row_tell) rfl rfl rfl rfl List.mem_cons_self hS22 rfl (Nat.le_of_ble_eq_true rfl) (Nat.le_of_ble_eq_true rfl) rfl rfl hC26 ?_
        show px_Y mm_X_never 175 lv [] q24 _ _
        refine py_il (pc := 175) (len := 2) (j := 7) rfl hk rfl ?_
        have h := Option.some.inj h
        subst h
        exact py_ir (pc := 177) (len := 1) (ty := .int) rfl rfl rfl hS27
    | false =>
      have h := cd_f hb18 h
      refine py_if (pc := 69) (len := 3) false rfl hb18 ?_
      refine py_aln (pc := 72) (len := 1) (j := 0) rfl hk rfl ?_
      refine py_iln (pc := 73) (len := 1) (j := 1) rfl hk rfl ?_
      refine py_iln (pc := 74) (len := 1) (j := 2) rfl hk rfl ?_
      refine py_il (pc := 75) (len := 2) (j := 9) rfl hk rfl ?_
      obtain ⟨q28, hq29, h⟩ := bd_e h
      have hC30 := (fx_X_packing hS hq29).1
      refine py_vi (pc := 77) (mi := mi_X_packing) (cs := [0]) (N := mm_X_packing) rfl rfl rfl rfl List.mem_cons_self hS rfl (Nat.le_of_ble_eq_true rfl) (Nat.le_of_ble_eq_true rfl) rfl rfl hC30 ?_
      show px_Y mm_X_never 80 lv [.int q28] hp _ _
      refine py_sti (pc := 80) (len := 2) (j := 10) rfl rfl hk (fun lv31 hk32 => ?_)
      have hk32 : lk lv31 [(10, .int q28), (0, .ref 0), (1, .int v1), (2, .int v2), (4, .int v4), (5, .int v5), (6, .int v6), (7, .int v7), (8, .int v8), (9, .int v9)] := hk32
      refine py_aln (pc := 82) (len := 1) (j := 0) rfl hk32 rfl ?_
      refine py_iln (pc := 83) (len := 1) (j := 1) rfl hk32 rfl ?_
      refine py_il (pc := 84) (len := 2) (j := 10) rfl hk32 rfl ?_
      refine py_il (pc := 86) (len := 2) (j := 4) rfl hk32 rfl ?_
      obtain ⟨q33, hq34, h⟩ := bd_e h
      obtain ⟨hC35, hS36⟩ := fx_X_walkPacked hS hq34
      refine py_vi (pc := 88) (mi := mi_X_walkPacked) (cs := [0]) (N := mm_X_walkPacked) rfl rfl rfl rfl List.mem_cons_self hS rfl (Nat.le_of_ble_eq_true rfl) (Nat.le_of_ble_eq_true rfl) rfl rfl hC35 ?_
      show px_Y mm_X_never 91 lv31 [.int q33.1] q33.2 _ _
      cases hb37 : px_cmp .ne q33.1 0 with
      | true =>
        have h := cd_t hb37 h
        refine py_if (pc := 91) (len := 3) true rfl hb37 ?_
        refine py_aln (pc := 97) (len := 1) (j := 0) rfl hk32 rfl ?_
        refine py_g1 28 (pc := 98) (len := 3) (cs := [0]) rfl rfl rfl List.mem_cons_self hS36 ?_
        obtain ⟨q38, hq39, h⟩ := bd_e h
        have hC40 := (fx_Walk_whoMaySit hS36 hq39).1
        refine py_vi (pc := 101) (mi := mi_Walk_whoMaySit) (cs := [28]) (N := mm_Walk_whoMaySit) rfl rfl rfl rfl List.mem_cons_self hS36 rfl (Nat.le_of_ble_eq_true rfl) (Nat.le_of_ble_eq_true rfl) rfl rfl hC40 ?_
        show px_Y mm_X_never 104 lv31 [.int q38] q33.2 _ _
        refine py_il (pc := 104) (len := 2) (j := 5) rfl hk32 rfl ?_
        refine py_its (pc := 106) (pc1 := 107) (lv1 := lv31) (st1 := [.int (q38 &&& v5)]) 1 (fun _ _ _ _ => rfl) ?_
        cases hb41 : px_cmp .ne (q38 &&& v5) 0 with
        | true =>
          have h := cd_t hb41 h
          refine py_if (pc := 107) (len := 3) true rfl hb41 ?_
          refine py_inc (pc := 147) (len := 3) (j := 9) (n := (-1)) rfl rfl hk32 rfl (fun lv42 hk43 => ?_)
          have hk43 : lk lv42 [(9, .int (v9 + Int32.ofInt (-1))), (10, .int q28), (0, .ref 0), (1, .int v1), (2, .int v2), (4, .int v4), (5, .int v5), (6, .int v6), (7, .int v7), (8, .int v8)] := hk43
          refine py_its (pc := 150) (pc1 := 67) (lv1 := lv42) (st1 := []) 1 (fun _ _ _ _ => rfl) ?_
          exact ih v7 v8 (v9 + Int32.ofInt (-1)) q33.2 lv42 _ hS36 ⟨lk_find hk43 rfl, lk_find hk43 rfl, lk_find hk43 rfl, lk_find hk43 rfl, lk_find hk43 rfl, lk_find hk43 rfl, lk_find hk43 rfl, lk_find hk43 rfl, lk_find hk43 rfl, trivial⟩ h
        | false =>
          have h := cd_f hb41 h
          refine py_if (pc := 107) (len := 3) false rfl hb41 ?_
          refine py_aln (pc := 110) (len := 1) (j := 0) rfl hk32 rfl ?_
          refine py_g1 28 (pc := 111) (len := 3) (cs := [0]) rfl rfl rfl List.mem_cons_self hS36 ?_
          refine py_il (pc := 114) (len := 2) (j := 6) rfl hk32 rfl ?_
          obtain ⟨q44, hq45, h⟩ := bd_e h
          have hC46 := (fx_Walk_mayFill hS36 hq45).1
          refine py_vi (pc := 116) (mi := mi_Walk_mayFill) (cs := [28]) (N := mm_Walk_mayFill) rfl rfl rfl rfl List.mem_cons_self hS36 rfl (Nat.le_of_ble_eq_true rfl) (Nat.le_of_ble_eq_true rfl) rfl rfl hC46 ?_
          show px_Y mm_X_never 119 lv31 [.int q44] q33.2 _ _
          cases hb47 : px_cmp .eq q44 0 with
          | true =>
            have h := cd_t hb47 h
            refine py_if (pc := 119) (len := 3) true rfl hb47 ?_
            refine py_inc (pc := 147) (len := 3) (j := 9) (n := (-1)) rfl rfl hk32 rfl (fun lv48 hk49 => ?_)
            have hk49 : lk lv48 [(9, .int (v9 + Int32.ofInt (-1))), (10, .int q28), (0, .ref 0), (1, .int v1), (2, .int v2), (4, .int v4), (5, .int v5), (6, .int v6), (7, .int v7), (8, .int v8)] := hk49
            refine py_its (pc := 150) (pc1 := 67) (lv1 := lv48) (st1 := []) 1 (fun _ _ _ _ => rfl) ?_
            exact ih v7 v8 (v9 + Int32.ofInt (-1)) q33.2 lv48 _ hS36 ⟨lk_find hk49 rfl, lk_find hk49 rfl, lk_find hk49 rfl, lk_find hk49 rfl, lk_find hk49 rfl, lk_find hk49 rfl, lk_find hk49 rfl, lk_find hk49 rfl, lk_find hk49 rfl, trivial⟩ h
          | false =>
            have h := cd_f hb47 h
            refine py_if (pc := 119) (len := 3) false rfl hb47 ?_
            refine py_inc (pc := 122) (len := 3) (j := 7) (n := 1) rfl rfl hk32 rfl (fun lv50 hk51 => ?_)
            have hk51 : lk lv50 [(7, .int (v7 + Int32.ofInt 1)), (10, .int q28), (0, .ref 0), (1, .int v1), (2, .int v2), (4, .int v4), (5, .int v5), (6, .int v6), (8, .int v8), (9, .int v9)] := hk51
            refine py_il (pc := 125) (len := 2) (j := 8) rfl hk51 rfl ?_
            cases hb52 : px_cmp .lt v8 0 with
            | true =>
              have h := cd_t hb52 h
              refine py_if (pc := 127) (len := 3) true rfl hb52 ?_
              refine py_il (pc := 143) (len := 2) (j := 10) rfl hk51 rfl ?_
              refine py_sti (pc := 145) (len := 2) (j := 8) rfl rfl hk51 (fun lv53 hk54 => ?_)
              have hk54 : lk lv53 [(8, .int q28), (7, .int (v7 + Int32.ofInt 1)), (10, .int q28), (0, .ref 0), (1, .int v1), (2, .int v2), (4, .int v4), (5, .int v5), (6, .int v6), (9, .int v9)] := hk54
              refine py_inc (pc := 147) (len := 3) (j := 9) (n := (-1)) rfl rfl hk54 rfl (fun lv55 hk56 => ?_)
              have hk56 : lk lv55 [(9, .int (v9 + Int32.ofInt (-1))), (8, .int q28), (7, .int (v7 + Int32.ofInt 1)), (10, .int q28), (0, .ref 0), (1, .int v1), (2, .int v2), (4, .int v4), (5, .int v5), (6, .int v6)] := hk56
              refine py_its (pc := 150) (pc1 := 67) (lv1 := lv55) (st1 := []) 1 (fun _ _ _ _ => rfl) ?_
              exact ih (v7 + Int32.ofInt 1) q28 (v9 + Int32.ofInt (-1)) q33.2 lv55 _ hS36 ⟨lk_find hk56 rfl, lk_find hk56 rfl, lk_find hk56 rfl, lk_find hk56 rfl, lk_find hk56 rfl, lk_find hk56 rfl, lk_find hk56 rfl, lk_find hk56 rfl, lk_find hk56 rfl, trivial⟩ h
            | false =>
              have h := cd_f hb52 h
              refine py_if (pc := 127) (len := 3) false rfl hb52 ?_
              refine py_il (pc := 130) (len := 2) (j := 10) rfl hk51 rfl ?_
              refine py_st (pc := 132) (mi := mi_I_bitCount) (N := mm_I_bitCount) rfl rfl rfl (Nat.le_of_ble_eq_true rfl) (Nat.le_of_ble_eq_true rfl) rfl rfl (nm_bc_C q28 q33.2) ?_
              show px_Y mm_X_never 135 lv50 [.int (nm_bc q28)] q33.2 _ _
              refine py_il (pc := 135) (len := 2) (j := 8) rfl hk51 rfl ?_
              refine py_st (pc := 137) (mi := mi_I_bitCount) (N := mm_I_bitCount) rfl rfl rfl (Nat.le_of_ble_eq_true rfl) (Nat.le_of_ble_eq_true rfl) rfl rfl (nm_bc_C v8 q33.2) ?_
              show px_Y mm_X_never 140 lv50 [.int (nm_bc v8), .int (nm_bc q28)] q33.2 _ _
              cases hb57 : px_cmp .lt (nm_bc q28) (nm_bc v8) with
              | true =>
                have h := cd_t hb57 h
                refine py_ic (pc := 140) (len := 3) true rfl hb57 ?_
                refine py_inc (pc := 147) (len := 3) (j := 9) (n := (-1)) rfl rfl hk51 rfl (fun lv58 hk59 => ?_)
                have hk59 : lk lv58 [(9, .int (v9 + Int32.ofInt (-1))), (7, .int (v7 + Int32.ofInt 1)), (10, .int q28), (0, .ref 0), (1, .int v1), (2, .int v2), (4, .int v4), (5, .int v5), (6, .int v6), (8, .int v8)] := hk59
                refine py_its (pc := 150) (pc1 := 67) (lv1 := lv58) (st1 := []) 1 (fun _ _ _ _ => rfl) ?_
                exact ih (v7 + Int32.ofInt 1) v8 (v9 + Int32.ofInt (-1)) q33.2 lv58 _ hS36 ⟨lk_find hk59 rfl, lk_find hk59 rfl, lk_find hk59 rfl, lk_find hk59 rfl, lk_find hk59 rfl, lk_find hk59 rfl, lk_find hk59 rfl, lk_find hk59 rfl, lk_find hk59 rfl, trivial⟩ h
              | false =>
                have h := cd_f hb57 h
                refine py_ic (pc := 140) (len := 3) false rfl hb57 ?_
                refine py_il (pc := 143) (len := 2) (j := 10) rfl hk51 rfl ?_
                refine py_sti (pc := 145) (len := 2) (j := 8) rfl rfl hk51 (fun lv60 hk61 => ?_)
                have hk61 : lk lv60 [(8, .int q28), (7, .int (v7 + Int32.ofInt 1)), (10, .int q28), (0, .ref 0), (1, .int v1), (2, .int v2), (4, .int v4), (5, .int v5), (6, .int v6), (9, .int v9)] := hk61
                refine py_inc (pc := 147) (len := 3) (j := 9) (n := (-1)) rfl rfl hk61 rfl (fun lv62 hk63 => ?_)
                have hk63 : lk lv62 [(9, .int (v9 + Int32.ofInt (-1))), (8, .int q28), (7, .int (v7 + Int32.ofInt 1)), (10, .int q28), (0, .ref 0), (1, .int v1), (2, .int v2), (4, .int v4), (5, .int v5), (6, .int v6)] := hk63
                refine py_its (pc := 150) (pc1 := 67) (lv1 := lv62) (st1 := []) 1 (fun _ _ _ _ => rfl) ?_
                exact ih (v7 + Int32.ofInt 1) q28 (v9 + Int32.ofInt (-1)) q33.2 lv62 _ hS36 ⟨lk_find hk63 rfl, lk_find hk63 rfl, lk_find hk63 rfl, lk_find hk63 rfl, lk_find hk63 rfl, lk_find hk63 rfl, lk_find hk63 rfl, lk_find hk63 rfl, lk_find hk63 rfl, trivial⟩ h
      | false =>
        have h := cd_f hb37 h
        refine py_if (pc := 91) (len := 3) false rfl hb37 ?_
        refine py_its (pc := 94) (pc1 := 96) (lv1 := lv31) (st1 := [.int (Int8.ofInt (-3)).toInt32]) 1 (fun _ _ _ _ => rfl) ?_
        have h := Option.some.inj h
        subst h
        exact py_ir (pc := 96) (len := 1) (ty := .int) rfl rfl rfl hS36
noncomputable def fn_X_never (a1 : Int32) (a2 : Int32) (a3 : Int32) (a4 : Int32) (hp : px_H) : Option (Int32 × px_H) :=
  (fn_X_canPack a1 a2 hp).bind fun q1 =>
  bif px_cmp .eq q1 0 then
    some ((Int32.ofInt (-1)), hp)
  else
    bif px_cmp .lt a3 0 then
      some ((Int32.ofInt (-1)), hp)
    else
      bif px_cmp .ge a3 (Int8.ofInt 6).toInt32 then
        some ((Int32.ofInt (-1)), hp)
      else
        (fn_Town_hasDrawing a4 hp).bind fun q7 =>
        bif px_cmp .ne q7 0 then
          (fn_Town_ofHouse a3 hp).bind fun q11 =>
          bif px_inR a4 6 then
          (fn_X_fullestWay a2 hp).bind fun q15 =>
          fn_X_never_L67 a1 a2 a4 q11 (aI hp 11 a4.toNatClampNeg) fu (Int32.ofInt 0) (Int32.ofInt (-1)) q15 hp
          else none
        else
          some ((Int32.ofInt (-1)), hp)
theorem fx_X_never {a1 : Int32} {a2 : Int32} {a3 : Int32} {a4 : Int32} {hp : px_H} {res : Int32 × px_H} (hS : oS hp) (h : fn_X_never a1 a2 a3 a4 hp = some res) : px_C nm_T nm_P mi_X_never [.ref 0, .int a1, .int a2, .int a3, .int a4] hp (some (.int res.1)) res.2 ∧ oS res.2 := by
  unfold fn_X_never at h
  refine py_C (M := mm_X_never) rfl (Nat.le_of_ble_eq_true rfl) ?_
  show px_Y mm_X_never 0 [(0, .ref 0), (1, .int a1), (2, .int a2), (3, .int a3), (4, .int a4)] [] hp _ _
  refine py_its (pc := 0) (pc1 := 3) (lv1 := [(0, .ref 0), (1, .int a1), (2, .int a2), (3, .int a3), (4, .int a4)]) (st1 := [.int a2, .int a1, .ref 0]) 3 (fun _ _ _ _ => rfl) ?_
  obtain ⟨q1, hq2, h⟩ := bd_e h
  have hC3 := (fx_X_canPack hS hq2).1
  refine py_vi (pc := 3) (mi := mi_X_canPack) (cs := [0]) (N := mm_X_canPack) rfl rfl rfl rfl List.mem_cons_self hS rfl (Nat.le_of_ble_eq_true rfl) (Nat.le_of_ble_eq_true rfl) rfl rfl hC3 ?_
  show px_Y mm_X_never 6 [(0, .ref 0), (1, .int a1), (2, .int a2), (3, .int a3), (4, .int a4)] [.int q1] hp _ _
  cases hb4 : px_cmp .eq q1 0 with
  | true =>
    have h := cd_t hb4 h
    refine py_if (pc := 6) (len := 3) true rfl hb4 ?_
    refine py_its (pc := 31) (pc1 := 32) (lv1 := [(0, .ref 0), (1, .int a1), (2, .int a2), (3, .int a3), (4, .int a4)]) (st1 := [.int (Int32.ofInt (-1))]) 1 (fun _ _ _ _ => rfl) ?_
    have h := Option.some.inj h
    subst h
    exact py_ir (pc := 32) (len := 1) (ty := .int) rfl rfl rfl hS
  | false =>
    have h := cd_f hb4 h
    refine py_if (pc := 6) (len := 3) false rfl hb4 ?_
    refine py_its (pc := 9) (pc1 := 10) (lv1 := [(0, .ref 0), (1, .int a1), (2, .int a2), (3, .int a3), (4, .int a4)]) (st1 := [.int a3]) 1 (fun _ _ _ _ => rfl) ?_
    cases hb5 : px_cmp .lt a3 0 with
    | true =>
      have h := cd_t hb5 h
      refine py_if (pc := 10) (len := 3) true rfl hb5 ?_
      refine py_its (pc := 31) (pc1 := 32) (lv1 := [(0, .ref 0), (1, .int a1), (2, .int a2), (3, .int a3), (4, .int a4)]) (st1 := [.int (Int32.ofInt (-1))]) 1 (fun _ _ _ _ => rfl) ?_
      have h := Option.some.inj h
      subst h
      exact py_ir (pc := 32) (len := 1) (ty := .int) rfl rfl rfl hS
    | false =>
      have h := cd_f hb5 h
      refine py_if (pc := 10) (len := 3) false rfl hb5 ?_
      refine py_its (pc := 13) (pc1 := 16) (lv1 := [(0, .ref 0), (1, .int a1), (2, .int a2), (3, .int a3), (4, .int a4)]) (st1 := [.int (Int8.ofInt 6).toInt32, .int a3]) 2 (fun _ _ _ _ => rfl) ?_
      cases hb6 : px_cmp .ge a3 (Int8.ofInt 6).toInt32 with
      | true =>
        have h := cd_t hb6 h
        refine py_ic (pc := 16) (len := 3) true rfl hb6 ?_
        refine py_its (pc := 31) (pc1 := 32) (lv1 := [(0, .ref 0), (1, .int a1), (2, .int a2), (3, .int a3), (4, .int a4)]) (st1 := [.int (Int32.ofInt (-1))]) 1 (fun _ _ _ _ => rfl) ?_
        have h := Option.some.inj h
        subst h
        exact py_ir (pc := 32) (len := 1) (ty := .int) rfl rfl rfl hS
      | false =>
        have h := cd_f hb6 h
        refine py_ic (pc := 16) (len := 3) false rfl hb6 ?_
        refine py_its (pc := 19) (pc1 := 20) (lv1 := [(0, .ref 0), (1, .int a1), (2, .int a2), (3, .int a3), (4, .int a4)]) (st1 := [.ref 0]) 1 (fun _ _ _ _ => rfl) ?_
        refine py_g1 1 (pc := 20) (len := 3) (cs := [0]) rfl rfl rfl List.mem_cons_self hS ?_
        refine py_its (pc := 23) (pc1 := 25) (lv1 := [(0, .ref 0), (1, .int a1), (2, .int a2), (3, .int a3), (4, .int a4)]) (st1 := [.int a4, .ref 1]) 1 (fun _ _ _ _ => rfl) ?_
        obtain ⟨q7, hq8, h⟩ := bd_e h
        have hC9 := (fx_Town_hasDrawing hS hq8).1
        refine py_vi (pc := 25) (mi := mi_Town_hasDrawing) (cs := [1]) (N := mm_Town_hasDrawing) rfl rfl rfl rfl List.mem_cons_self hS rfl (Nat.le_of_ble_eq_true rfl) (Nat.le_of_ble_eq_true rfl) rfl rfl hC9 ?_
        show px_Y mm_X_never 28 [(0, .ref 0), (1, .int a1), (2, .int a2), (3, .int a3), (4, .int a4)] [.int q7] hp _ _
        cases hb10 : px_cmp .ne q7 0 with
        | true =>
          have h := cd_t hb10 h
          refine py_if (pc := 28) (len := 3) true rfl hb10 ?_
          refine py_its (pc := 33) (pc1 := 34) (lv1 := [(0, .ref 0), (1, .int a1), (2, .int a2), (3, .int a3), (4, .int a4)]) (st1 := [.ref 0]) 1 (fun _ _ _ _ => rfl) ?_
          refine py_g1 1 (pc := 34) (len := 3) (cs := [0]) rfl rfl rfl List.mem_cons_self hS ?_
          refine py_its (pc := 37) (pc1 := 38) (lv1 := [(0, .ref 0), (1, .int a1), (2, .int a2), (3, .int a3), (4, .int a4)]) (st1 := [.int a3, .ref 1]) 1 (fun _ _ _ _ => rfl) ?_
          obtain ⟨q11, hq12, h⟩ := bd_e h
          have hC13 := (fx_Town_ofHouse hS hq12).1
          refine py_vi (pc := 38) (mi := mi_Town_ofHouse) (cs := [1]) (N := mm_Town_ofHouse) rfl rfl rfl rfl List.mem_cons_self hS rfl (Nat.le_of_ble_eq_true rfl) (Nat.le_of_ble_eq_true rfl) rfl rfl hC13 ?_
          show px_Y mm_X_never 41 [(0, .ref 0), (1, .int a1), (2, .int a2), (3, .int a3), (4, .int a4)] [.int q11] hp _ _
          refine py_its (pc := 41) (pc1 := 44) (lv1 := [(5, .int q11), (0, .ref 0), (1, .int a1), (2, .int a2), (3, .int a3), (4, .int a4)]) (st1 := [.ref 0]) 2 (fun _ _ _ _ => rfl) ?_
          refine py_g1 1 (pc := 44) (len := 3) (cs := [0]) rfl rfl rfl List.mem_cons_self hS ?_
          refine py_g1 11 (pc := 47) (len := 3) (cs := [1]) rfl rfl rfl List.mem_cons_self hS ?_
          refine py_its (pc := 50) (pc1 := 52) (lv1 := [(5, .int q11), (0, .ref 0), (1, .int a1), (2, .int a2), (3, .int a3), (4, .int a4)]) (st1 := [.int a4, .ref 11]) 1 (fun _ _ _ _ => rfl) ?_
          obtain ⟨hi14, h⟩ := cd_n h
          refine py_ai (pc := 52) (len := 1) (cs := [11]) (t := 21) (n := 6) rfl rfl rfl hi14 List.mem_cons_self hS ?_
          refine py_its (pc := 53) (pc1 := 62) (lv1 := [(8, .int (Int32.ofInt (-1))), (7, .int (Int32.ofInt 0)), (6, .int (aI hp 11 a4.toNatClampNeg)), (5, .int q11), (0, .ref 0), (1, .int a1), (2, .int a2), (3, .int a3), (4, .int a4)]) (st1 := [.int a2]) 6 (fun _ _ _ _ => rfl) ?_
          obtain ⟨q15, hq16, h⟩ := bd_e h
          have hC17 := (fx_X_fullestWay hS hq16).1
          refine py_st (pc := 62) (mi := mi_X_fullestWay) (N := mm_X_fullestWay) rfl rfl rfl (Nat.le_of_ble_eq_true rfl) (Nat.le_of_ble_eq_true rfl) rfl rfl hC17 ?_
          show px_Y mm_X_never 65 [(8, .int (Int32.ofInt (-1))), (7, .int (Int32.ofInt 0)), (6, .int (aI hp 11 a4.toNatClampNeg)), (5, .int q11), (0, .ref 0), (1, .int a1), (2, .int a2), (3, .int a3), (4, .int a4)] [.int q15] hp _ _
          refine py_its (pc := 65) (pc1 := 67) (lv1 := [(9, .int q15), (8, .int (Int32.ofInt (-1))), (7, .int (Int32.ofInt 0)), (6, .int (aI hp 11 a4.toNatClampNeg)), (5, .int q11), (0, .ref 0), (1, .int a1), (2, .int a2), (3, .int a3), (4, .int a4)]) (st1 := []) 1 (fun _ _ _ _ => rfl) ?_
          exact fl_X_never_L67 fu (Int32.ofInt 0) (Int32.ofInt (-1)) q15 hp [(9, .int q15), (8, .int (Int32.ofInt (-1))), (7, .int (Int32.ofInt 0)), (6, .int (aI hp 11 a4.toNatClampNeg)), (5, .int q11), (0, .ref 0), (1, .int a1), (2, .int a2), (3, .int a3), (4, .int a4)] _ hS ⟨rfl, rfl, rfl, rfl, rfl, rfl, rfl, rfl, rfl, trivial⟩ h
        | false =>
          have h := cd_f hb10 h
          refine py_if (pc := 28) (len := 3) false rfl hb10 ?_
          refine py_its (pc := 31) (pc1 := 32) (lv1 := [(0, .ref 0), (1, .int a1), (2, .int a2), (3, .int a3), (4, .int a4)]) (st1 := [.int (Int32.ofInt (-1))]) 1 (fun _ _ _ _ => rfl) ?_
          have h := Option.some.inj h
          subst h
          exact py_ir (pc := 32) (len := 1) (ty := .int) rfl rfl rfl hS
/-! Walk_howUnlike -/
noncomputable def fb_Walk_howUnlike_L12 (v1 : Int32) (hp : px_H) (rc : Int64 → Int64 → Int32 → Option (Int64)) (v2 : Int64) (v4 : Int64) (v6 : Int32) : Option (Int64) :=
  bif px_cmp .ge v6 (Int8.ofInt 10).toInt32 then
    some (v2 - v4)
  else
    bif px_cmp .eq ((v1 >>> (v6 &&& 31)) &&& (Int32.ofInt 1)) 0 then
      rc v2 v4 (v6 + Int32.ofInt 1)
    else
      (fn_Walk_chanceOfAny ((Int32.ofInt 1) <<< (v6 &&& 31)) hp).bind fun q5 =>
      bif px_cmp .ge (lg_cmp v4 (Int64.ofNat 0)) 0 then
        rc (if q5 < v2 then v2 else q5) (if q5 < v4 then q5 else v4) (v6 + Int32.ofInt 1)
      else
        rc (if q5 < v2 then v2 else q5) q5 (v6 + Int32.ofInt 1)
noncomputable def fn_Walk_howUnlike_L12 (v1 : Int32) (hp : px_H) : Nat → Int64 → Int64 → Int32 → Option (Int64)
  | 0 => fun _ _ _ => none
  | n + 1 => fb_Walk_howUnlike_L12 v1 hp (fn_Walk_howUnlike_L12 v1 hp n)
theorem fl_Walk_howUnlike_L12 {v1 : Int32} {hp : px_H}  : ∀ (n : Nat) (v2 : Int64) (v4 : Int64) (v6 : Int32) (lv : List (Nat × Value)) (res : Int64), oS hp → lk lv [(0, .ref 28), (1, .int v1), (2, .long v2), (4, .long v4), (6, .int v6)] → fn_Walk_howUnlike_L12 v1 hp n v2 v4 v6 = some res → px_Y mm_Walk_howUnlike 12 lv [] hp (some (.long res)) hp := by
  intro n
  induction n with
  | zero =>
    intro v2 v4 v6 lv res hS hk h
    cases h
  | succ n ih =>
    intro v2 v4 v6 lv res hS hk h
    have h : fb_Walk_howUnlike_L12 v1 hp (fn_Walk_howUnlike_L12 v1 hp n) v2 v4 v6 = some res := h
    unfold fb_Walk_howUnlike_L12 at h
    refine py_il (pc := 12) (len := 2) (j := 6) rfl hk rfl ?_
    refine py_its (pc := 14) (pc1 := 16) (lv1 := lv) (st1 := [.int (Int8.ofInt 10).toInt32, .int v6]) 1 (fun _ _ _ _ => rfl) ?_
    cases hb1 : px_cmp .ge v6 (Int8.ofInt 10).toInt32 with
    | true =>
      have h := cd_t hb1 h
      refine py_ic (pc := 16) (len := 3) true rfl hb1 ?_
      refine py_lln (pc := 72) (len := 1) (j := 2) rfl hk rfl ?_
      refine py_ll (pc := 73) (len := 2) (j := 4) rfl hk rfl ?_
      refine py_its (pc := 75) (pc1 := 76) (lv1 := lv) (st1 := [.long (v2 - v4)]) 1 (fun _ _ _ _ => rfl) ?_
      have h := Option.some.inj h
      subst h
      exact py_lr (pc := 76) (len := 1) rfl rfl hS
    | false =>
      have h := cd_f hb1 h
      refine py_ic (pc := 16) (len := 3) false rfl hb1 ?_
      refine py_iln (pc := 19) (len := 1) (j := 1) rfl hk rfl ?_
      refine py_il (pc := 20) (len := 2) (j := 6) rfl hk rfl ?_
      refine py_its (pc := 22) (pc1 := 25) (lv1 := lv) (st1 := [.int ((v1 >>> (v6 &&& 31)) &&& (Int32.ofInt 1))]) 3 (fun _ _ _ _ => rfl) ?_
      cases hb2 : px_cmp .eq ((v1 >>> (v6 &&& 31)) &&& (Int32.ofInt 1)) 0 with
      | true =>
        have h := cd_t hb2 h
        refine py_if (pc := 25) (len := 3) true rfl hb2 ?_
        refine py_inc (pc := 66) (len := 3) (j := 6) (n := 1) rfl rfl hk rfl (fun lv3 hk4 => ?_)
        have hk4 : lk lv3 [(6, .int (v6 + Int32.ofInt 1)), (0, .ref 28), (1, .int v1), (2, .long v2), (4, .long v4)] := hk4
        refine py_its (pc := 69) (pc1 := 12) (lv1 := lv3) (st1 := []) 1 (fun _ _ _ _ => rfl) ?_
        exact ih v2 v4 (v6 + Int32.ofInt 1) lv3 _ hS ⟨lk_find hk4 rfl, lk_find hk4 rfl, lk_find hk4 rfl, lk_find hk4 rfl, lk_find hk4 rfl, trivial⟩ h
      | false =>
        have h := cd_f hb2 h
        refine py_if (pc := 25) (len := 3) false rfl hb2 ?_
        refine py_aln (pc := 28) (len := 1) (j := 0) rfl hk rfl ?_
        refine py_its (pc := 29) (pc1 := 30) (lv1 := lv) (st1 := [.int (Int32.ofInt 1), .ref 28]) 1 (fun _ _ _ _ => rfl) ?_
        refine py_il (pc := 30) (len := 2) (j := 6) rfl hk rfl ?_
        refine py_its (pc := 32) (pc1 := 33) (lv1 := lv) (st1 := [.int ((Int32.ofInt 1) <<< (v6 &&& 31)), .ref 28]) 1 (fun _ _ _ _ => rfl) ?_
        obtain ⟨q5, hq6, h⟩ := bd_e h
        have hC7 := (fx_Walk_chanceOfAny hS hq6).1
        refine py_vi (pc := 33) (mi := mi_Walk_chanceOfAny) (cs := [28]) (N := mm_Walk_chanceOfAny) rfl rfl rfl rfl List.mem_cons_self hS rfl (Nat.le_of_ble_eq_true rfl) (Nat.le_of_ble_eq_true rfl) rfl rfl hC7 ?_
        show px_Y mm_Walk_howUnlike 36 lv [.long q5] hp _ _
        refine py_stl (pc := 36) (len := 2) (j := 7) rfl rfl hk (fun lv8 hk9 => ?_)
        have hk9 : lk lv8 [(7, .long q5), (0, .ref 28), (1, .int v1), (2, .long v2), (4, .long v4), (6, .int v6)] := hk9
        refine py_lln (pc := 38) (len := 1) (j := 2) rfl hk9 rfl ?_
        refine py_ll (pc := 39) (len := 2) (j := 7) rfl hk9 rfl ?_
        refine py_mth (pc := 41) (w := 2) (st' := [.long (if q5 < v2 then v2 else q5)]) rfl rfl rfl (Nat.le_of_ble_eq_true rfl) ?_
        refine py_sln (pc := 44) (len := 1) (j := 2) rfl rfl hk9 (fun lv10 hk11 => ?_)
        have hk11 : lk lv10 [(2, .long (if q5 < v2 then v2 else q5)), (7, .long q5), (0, .ref 28), (1, .int v1), (4, .long v4), (6, .int v6)] := hk11
        refine py_ll (pc := 45) (len := 2) (j := 4) rfl hk11 rfl ?_
        refine py_its (pc := 47) (pc1 := 48) (lv1 := lv10) (st1 := [.long (Int64.ofNat 0), .long v4]) 1 (fun _ _ _ _ => rfl) ?_
        cases hb12 : px_cmp .ge (lg_cmp v4 (Int64.ofNat 0)) 0 with
        | true =>
          have h := cd_t hb12 h
          refine py_lc (pc := 48) (len := 1) true rfl rfl hb12 ?_
          refine py_ll (pc := 57) (len := 2) (j := 4) rfl hk11 rfl ?_
          refine py_ll (pc := 59) (len := 2) (j := 7) rfl hk11 rfl ?_
          refine py_mth (pc := 61) (w := 3) (st' := [.long (if q5 < v4 then q5 else v4)]) rfl rfl rfl (Nat.le_of_ble_eq_true rfl) ?_
          refine py_stl (pc := 64) (len := 2) (j := 4) rfl rfl hk11 (fun lv13 hk14 => ?_)
          have hk14 : lk lv13 [(4, .long (if q5 < v4 then q5 else v4)), (2, .long (if q5 < v2 then v2 else q5)), (7, .long q5), (0, .ref 28), (1, .int v1), (6, .int v6)] := hk14
          refine py_inc (pc := 66) (len := 3) (j := 6) (n := 1) rfl rfl hk14 rfl (fun lv15 hk16 => ?_)
          have hk16 : lk lv15 [(6, .int (v6 + Int32.ofInt 1)), (4, .long (if q5 < v4 then q5 else v4)), (2, .long (if q5 < v2 then v2 else q5)), (7, .long q5), (0, .ref 28), (1, .int v1)] := hk16
          refine py_its (pc := 69) (pc1 := 12) (lv1 := lv15) (st1 := []) 1 (fun _ _ _ _ => rfl) ?_
          exact ih (if q5 < v2 then v2 else q5) (if q5 < v4 then q5 else v4) (v6 + Int32.ofInt 1) lv15 _ hS ⟨lk_find hk16 rfl, lk_find hk16 rfl, lk_find hk16 rfl, lk_find hk16 rfl, lk_find hk16 rfl, trivial⟩ h
        | false =>
          have h := cd_f hb12 h
          refine py_lc (pc := 48) (len := 1) false rfl rfl hb12 ?_
          refine py_ll (pc := 52) (len := 2) (j := 7) rfl hk11 rfl ?_
          refine py_its (pc := 54) (pc1 := 64) (lv1 := lv10) (st1 := [.long q5]) 1 (fun _ _ _ _ => rfl) ?_
          refine py_stl (pc := 64) (len := 2) (j := 4) rfl rfl hk11 (fun lv17 hk18 => ?_)
          have hk18 : lk lv17 [(4, .long q5), (2, .long (if q5 < v2 then v2 else q5)), (7, .long q5), (0, .ref 28), (1, .int v1), (6, .int v6)] := hk18
          refine py_inc (pc := 66) (len := 3) (j := 6) (n := 1) rfl rfl hk18 rfl (fun lv19 hk20 => ?_)
          have hk20 : lk lv19 [(6, .int (v6 + Int32.ofInt 1)), (4, .long q5), (2, .long (if q5 < v2 then v2 else q5)), (7, .long q5), (0, .ref 28), (1, .int v1)] := hk20
          refine py_its (pc := 69) (pc1 := 12) (lv1 := lv19) (st1 := []) 1 (fun _ _ _ _ => rfl) ?_
          exact ih (if q5 < v2 then v2 else q5) q5 (v6 + Int32.ofInt 1) lv19 _ hS ⟨lk_find hk20 rfl, lk_find hk20 rfl, lk_find hk20 rfl, lk_find hk20 rfl, lk_find hk20 rfl, trivial⟩ h
noncomputable def fn_Walk_howUnlike (a1 : Int32) (hp : px_H) : Option (Int64) :=
  fn_Walk_howUnlike_L12 a1 hp fu (Int64.ofInt (-1)) (Int64.ofInt (-1)) (Int32.ofInt 0)
theorem fx_Walk_howUnlike {a1 : Int32} {hp : px_H} {res : Int64} (hS : oS hp) (h : fn_Walk_howUnlike a1 hp = some res) : px_C nm_T nm_P mi_Walk_howUnlike [.ref 28, .int a1] hp (some (.long res)) hp ∧ oS hp := by
  unfold fn_Walk_howUnlike at h
  refine py_C (M := mm_Walk_howUnlike) rfl (Nat.le_of_ble_eq_true rfl) ?_
  show px_Y mm_Walk_howUnlike 0 [(0, .ref 28), (1, .int a1)] [] hp _ _
  refine py_its (pc := 0) (pc1 := 12) (lv1 := [(6, .int (Int32.ofInt 0)), (4, .long (Int64.ofInt (-1))), (2, .long (Int64.ofInt (-1))), (0, .ref 28), (1, .int a1)]) (st1 := []) 6 (fun _ _ _ _ => rfl) ?_
  exact fl_Walk_howUnlike_L12 fu (Int64.ofInt (-1)) (Int64.ofInt (-1)) (Int32.ofInt 0) [(6, .int (Int32.ofInt 0)), (4, .long (Int64.ofInt (-1))), (2, .long (Int64.ofInt (-1))), (0, .ref 28), (1, .int a1)] _ hS ⟨rfl, rfl, rfl, rfl, rfl, trivial⟩ h
/-! X_even -/
noncomputable def fb_X_even_L50 (v1 : Int32) (v2 : Int32) (v3 : Int32) (v4 : Int32) (rc : Int32 → Int64 → Int32 → px_H → Option (Int32 × px_H)) (v5 : Int32) (v6 : Int64) (v8 : Int32) (hp : px_H) : Option (Int32 × px_H) :=
  bif px_cmp .lt v8 0 then
    (fn_Row_tellOne v5.toInt64 hp).bind fun q18 =>
    (fn_Row_tell v6 q18).bind fun q22 =>
    some ((Int32.ofInt 0), q22)
  else
    (fn_X_packing v1 v2 v8 hp).bind fun q26 =>
    (fn_X_walkPacked v1 q26 v4 hp).bind fun q31 =>
    bif px_cmp .ne q31.1 0 then
      (fn_Walk_howUnlike v3 q31.2).bind fun q36 =>
      bif px_cmp .ne (lg_cmp q36 v6) 0 then
        bif px_cmp .lt v5 0 then
          rc q26 q36 (v8 + Int32.ofInt (-1)) q31.2
        else
          bif px_cmp .lt (lg_cmp q36 v6) 0 then
            rc q26 q36 (v8 + Int32.ofInt (-1)) q31.2
          else
            rc v5 v6 (v8 + Int32.ofInt (-1)) q31.2
      else
        bif px_cmp .lt (nm_bc q26) (nm_bc v5) then
          bif px_cmp .lt v5 0 then
            rc q26 q36 (v8 + Int32.ofInt (-1)) q31.2
          else
            bif px_cmp .lt (lg_cmp q36 v6) 0 then
              rc q26 q36 (v8 + Int32.ofInt (-1)) q31.2
            else
              rc v5 v6 (v8 + Int32.ofInt (-1)) q31.2
        else
          bif px_cmp .lt v5 0 then
            rc q26 q36 (v8 + Int32.ofInt (-1)) q31.2
          else
            bif px_cmp .lt (lg_cmp q36 v6) 0 then
              rc q26 q36 (v8 + Int32.ofInt (-1)) q31.2
            else
              rc q26 q36 (v8 + Int32.ofInt (-1)) q31.2
    else
      some ((Int8.ofInt (-3)).toInt32, q31.2)
noncomputable def fn_X_even_L50 (v1 : Int32) (v2 : Int32) (v3 : Int32) (v4 : Int32) : Nat → Int32 → Int64 → Int32 → px_H → Option (Int32 × px_H)
  | 0 => fun _ _ _ _ => none
  | n + 1 => fb_X_even_L50 v1 v2 v3 v4 (fn_X_even_L50 v1 v2 v3 v4 n)
theorem fl_X_even_L50 {v1 : Int32} {v2 : Int32} {v3 : Int32} {v4 : Int32}  : ∀ (n : Nat) (v5 : Int32) (v6 : Int64) (v8 : Int32) (hp : px_H) (lv : List (Nat × Value)) (res : Int32 × px_H), oS hp → lk lv [(0, .ref 0), (1, .int v1), (2, .int v2), (3, .int v3), (4, .int v4), (5, .int v5), (6, .long v6), (8, .int v8)] → fn_X_even_L50 v1 v2 v3 v4 n v5 v6 v8 hp = some res → px_Y mm_X_even 50 lv [] hp (some (.int res.1)) res.2 := by
  intro n
  induction n with
  | zero =>
    intro v5 v6 v8 hp lv res hS hk h
    cases h
  | succ n ih =>
    intro v5 v6 v8 hp lv res hS hk h
    have h : fb_X_even_L50 v1 v2 v3 v4 (fn_X_even_L50 v1 v2 v3 v4 n) v5 v6 v8 hp = some res := h
    unfold fb_X_even_L50 at h
    refine py_il (pc := 50) (len := 2) (j := 8) rfl hk rfl ?_
    cases hb17 : px_cmp .lt v8 0 with
    | true =>
      have h := cd_t hb17 h
      refine py_if (pc := 52) (len := 3) true rfl hb17 ?_
      refine py_aln (pc := 150) (len := 1) (j := 0) rfl hk rfl ?_
      refine py_g1 48 (pc := 151) (len := 3) (cs := [0]) rfl rfl rfl List.mem_cons_self hS ?_
      refine py_il (pc := 154) (len := 2) (j := 5) rfl hk rfl ?_
      refine py_its (pc := 156) (pc1 := 157) (lv1 := lv) (st1 := [.long v5.toInt64, .ref 48]) 1 (fun _ _ _ _ => rfl) ?_
      obtain ⟨q18, hq19, h⟩ := bd_e h
      obtain ⟨hC20, hS21⟩ := fx_Row_tellOne hS hq19
      refine py_vi (pc := 157) (mi := mi_Row_tellOne) (cs := [48]) (N := mm_Row_tellOne) rfl rfl rfl rfl List.mem_cons_self hS rfl (Nat.le_of_ble_eq_true rfl) (Nat.le_of_ble_eq_true rfl) rfl rfl hC20 ?_
      show px_Y mm_X_even 160 lv [] q18 _ _
      refine py_aln (pc := 160) (len := 1) (j := 0) rfl hk rfl ?_
      refine py_g1 48 (pc := 161) (len := 3) (cs := [0]) rfl rfl rfl List.mem_cons_self hS21 ?_
      refine py_ll (pc := 164) (len := 2) (j := 6) rfl hk rfl ?_
      obtain ⟨q22, hq23, h⟩ := bd_e h
      obtain ⟨hC24, hS25⟩ := fx_Row_tell hS21 hq23
      refine py_vi (pc := 166) (mi := mi_Row_tell) (cs := [48]) (N := mm_Row_tell) rfl rfl rfl rfl List.mem_cons_self hS21 rfl (Nat.le_of_ble_eq_true rfl) (Nat.le_of_ble_eq_true rfl) rfl rfl hC24 ?_
      show px_Y mm_X_even 169 lv [] q22 _ _
      refine py_its (pc := 169) (pc1 := 170) (lv1 := lv) (st1 := [.int (Int32.ofInt 0)]) 1 (fun _ _ _ _ => rfl) ?_
      have h := Option.some.inj h
      subst h
      exact py_ir (pc := 170) (len := 1) (ty := .int) rfl rfl rfl hS25
    | false =>
      have h := cd_f hb17 h
      refine py_if (pc := 52) (len := 3) false rfl hb17 ?_
      refine py_aln (pc := 55) (len := 1) (j := 0) rfl hk rfl ?_
      refine py_iln (pc := 56) (len := 1) (j := 1) rfl hk rfl ?_
      refine py_iln (pc := 57) (len := 1) (j := 2) rfl hk rfl ?_
      refine py_il (pc := 58) (len := 2) (j := 8) rfl hk rfl ?_
      obtain ⟨q26, hq27, h⟩ := bd_e h
      have hC28 := (fx_X_packing hS hq27).1
      refine py_vi (pc := 60) (mi := mi_X_packing) (cs := [0]) (N := mm_X_packing) rfl rfl rfl rfl List.mem_cons_self hS rfl (Nat.le_of_ble_eq_true rfl) (Nat.le_of_ble_eq_true rfl) rfl rfl hC28 ?_
      show px_Y mm_X_even 63 lv [.int q26] hp _ _
      refine py_sti (pc := 63) (len := 2) (j := 9) rfl rfl hk (fun lv29 hk30 => ?_)
      have hk30 : lk lv29 [(9, .int q26), (0, .ref 0), (1, .int v1), (2, .int v2), (3, .int v3), (4, .int v4), (5, .int v5), (6, .long v6), (8, .int v8)] := hk30
      refine py_aln (pc := 65) (len := 1) (j := 0) rfl hk30 rfl ?_
      refine py_iln (pc := 66) (len := 1) (j := 1) rfl hk30 rfl ?_
      refine py_il (pc := 67) (len := 2) (j := 9) rfl hk30 rfl ?_
      refine py_il (pc := 69) (len := 2) (j := 4) rfl hk30 rfl ?_
      obtain ⟨q31, hq32, h⟩ := bd_e h
      obtain ⟨hC33, hS34⟩ := fx_X_walkPacked hS hq32
      refine py_vi (pc := 71) (mi := mi_X_walkPacked) (cs := [0]) (N := mm_X_walkPacked) rfl rfl rfl rfl List.mem_cons_self hS rfl (Nat.le_of_ble_eq_true rfl) (Nat.le_of_ble_eq_true rfl) rfl rfl hC33 ?_
      show px_Y mm_X_even 74 lv29 [.int q31.1] q31.2 _ _
      cases hb35 : px_cmp .ne q31.1 0 with
      | true =>
        have h := cd_t hb35 h
        refine py_if (pc := 74) (len := 3) true rfl hb35 ?_
        refine py_aln (pc := 80) (len := 1) (j := 0) rfl hk30 rfl ?_
        refine py_g1 28 (pc := 81) (len := 3) (cs := [0]) rfl rfl rfl List.mem_cons_self hS34 ?_
        refine py_iln (pc := 84) (len := 1) (j := 3) rfl hk30 rfl ?_
        obtain ⟨q36, hq37, h⟩ := bd_e h
        have hC38 := (fx_Walk_howUnlike hS34 hq37).1
        refine py_vi (pc := 85) (mi := mi_Walk_howUnlike) (cs := [28]) (N := mm_Walk_howUnlike) rfl rfl rfl rfl List.mem_cons_self hS34 rfl (Nat.le_of_ble_eq_true rfl) (Nat.le_of_ble_eq_true rfl) rfl rfl hC38 ?_
        show px_Y mm_X_even 88 lv29 [.long q36] q31.2 _ _
        refine py_stl (pc := 88) (len := 2) (j := 10) rfl rfl hk30 (fun lv39 hk40 => ?_)
        have hk40 : lk lv39 [(10, .long q36), (9, .int q26), (0, .ref 0), (1, .int v1), (2, .int v2), (3, .int v3), (4, .int v4), (5, .int v5), (6, .long v6), (8, .int v8)] := hk40
        refine py_ll (pc := 90) (len := 2) (j := 10) rfl hk40 rfl ?_
        refine py_ll (pc := 92) (len := 2) (j := 6) rfl hk40 rfl ?_
        cases hb41 : px_cmp .ne (lg_cmp q36 v6) 0 with
        | true =>
          have h := cd_t hb41 h
          refine py_lc (pc := 94) (len := 1) true rfl rfl hb41 ?_
          refine py_its (pc := 115) (pc1 := 116) (lv1 := lv39) (st1 := [.int (Int32.ofInt 0)]) 1 (fun _ _ _ _ => rfl) ?_
          refine py_sti (pc := 116) (len := 2) (j := 12) rfl rfl hk40 (fun lv42 hk43 => ?_)
          have hk43 : lk lv42 [(12, .int (Int32.ofInt 0)), (10, .long q36), (9, .int q26), (0, .ref 0), (1, .int v1), (2, .int v2), (3, .int v3), (4, .int v4), (5, .int v5), (6, .long v6), (8, .int v8)] := hk43
          refine py_il (pc := 118) (len := 2) (j := 5) rfl hk43 rfl ?_
          cases hb44 : px_cmp .lt v5 0 with
          | true =>
            have h := cd_t hb44 h
            refine py_if (pc := 120) (len := 3) true rfl hb44 ?_
            refine py_il (pc := 136) (len := 2) (j := 9) rfl hk43 rfl ?_
            refine py_sti (pc := 138) (len := 2) (j := 5) rfl rfl hk43 (fun lv45 hk46 => ?_)
            have hk46 : lk lv45 [(5, .int q26), (12, .int (Int32.ofInt 0)), (10, .long q36), (9, .int q26), (0, .ref 0), (1, .int v1), (2, .int v2), (3, .int v3), (4, .int v4), (6, .long v6), (8, .int v8)] := hk46
            refine py_ll (pc := 140) (len := 2) (j := 10) rfl hk46 rfl ?_
            refine py_stl (pc := 142) (len := 2) (j := 6) rfl rfl hk46 (fun lv47 hk48 => ?_)
            have hk48 : lk lv47 [(6, .long q36), (5, .int q26), (12, .int (Int32.ofInt 0)), (10, .long q36), (9, .int q26), (0, .ref 0), (1, .int v1), (2, .int v2), (3, .int v3), (4, .int v4), (8, .int v8)] := hk48
            refine py_inc (pc := 144) (len := 3) (j := 8) (n := (-1)) rfl rfl hk48 rfl (fun lv49 hk50 => ?_)
            have hk50 : lk lv49 [(8, .int (v8 + Int32.ofInt (-1))), (6, .long q36), (5, .int q26), (12, .int (Int32.ofInt 0)), (10, .long q36), (9, .int q26), (0, .ref 0), (1, .int v1), (2, .int v2), (3, .int v3), (4, .int v4)] := hk50
            refine py_its (pc := 147) (pc1 := 50) (lv1 := lv49) (st1 := []) 1 (fun _ _ _ _ => rfl) ?_
            exact ih q26 q36 (v8 + Int32.ofInt (-1)) q31.2 lv49 _ hS34 ⟨lk_find hk50 rfl, lk_find hk50 rfl, lk_find hk50 rfl, lk_find hk50 rfl, lk_find hk50 rfl, lk_find hk50 rfl, lk_find hk50 rfl, lk_find hk50 rfl, trivial⟩ h
          | false =>
            have h := cd_f hb44 h
            refine py_if (pc := 120) (len := 3) false rfl hb44 ?_
            refine py_ll (pc := 123) (len := 2) (j := 10) rfl hk43 rfl ?_
            refine py_ll (pc := 125) (len := 2) (j := 6) rfl hk43 rfl ?_
            cases hb51 : px_cmp .lt (lg_cmp q36 v6) 0 with
            | true =>
              have h := cd_t hb51 h
              refine py_lc (pc := 127) (len := 1) true rfl rfl hb51 ?_
              refine py_il (pc := 136) (len := 2) (j := 9) rfl hk43 rfl ?_
              refine py_sti (pc := 138) (len := 2) (j := 5) rfl rfl hk43 (fun lv52 hk53 => ?_)
              have hk53 : lk lv52 [(5, .int q26), (12, .int (Int32.ofInt 0)), (10, .long q36), (9, .int q26), (0, .ref 0), (1, .int v1), (2, .int v2), (3, .int v3), (4, .int v4), (6, .long v6), (8, .int v8)] := hk53
              refine py_ll (pc := 140) (len := 2) (j := 10) rfl hk53 rfl ?_
              refine py_stl (pc := 142) (len := 2) (j := 6) rfl rfl hk53 (fun lv54 hk55 => ?_)
              have hk55 : lk lv54 [(6, .long q36), (5, .int q26), (12, .int (Int32.ofInt 0)), (10, .long q36), (9, .int q26), (0, .ref 0), (1, .int v1), (2, .int v2), (3, .int v3), (4, .int v4), (8, .int v8)] := hk55
              refine py_inc (pc := 144) (len := 3) (j := 8) (n := (-1)) rfl rfl hk55 rfl (fun lv56 hk57 => ?_)
              have hk57 : lk lv56 [(8, .int (v8 + Int32.ofInt (-1))), (6, .long q36), (5, .int q26), (12, .int (Int32.ofInt 0)), (10, .long q36), (9, .int q26), (0, .ref 0), (1, .int v1), (2, .int v2), (3, .int v3), (4, .int v4)] := hk57
              refine py_its (pc := 147) (pc1 := 50) (lv1 := lv56) (st1 := []) 1 (fun _ _ _ _ => rfl) ?_
              exact ih q26 q36 (v8 + Int32.ofInt (-1)) q31.2 lv56 _ hS34 ⟨lk_find hk57 rfl, lk_find hk57 rfl, lk_find hk57 rfl, lk_find hk57 rfl, lk_find hk57 rfl, lk_find hk57 rfl, lk_find hk57 rfl, lk_find hk57 rfl, trivial⟩ h
            | false =>
              have h := cd_f hb51 h
              refine py_lc (pc := 127) (len := 1) false rfl rfl hb51 ?_
              refine py_il (pc := 131) (len := 2) (j := 12) rfl hk43 rfl ?_
              refine py_if (pc := 133) (len := 3) true rfl (by decide) ?_
              refine py_inc (pc := 144) (len := 3) (j := 8) (n := (-1)) rfl rfl hk43 rfl (fun lv58 hk59 => ?_)
              have hk59 : lk lv58 [(8, .int (v8 + Int32.ofInt (-1))), (12, .int (Int32.ofInt 0)), (10, .long q36), (9, .int q26), (0, .ref 0), (1, .int v1), (2, .int v2), (3, .int v3), (4, .int v4), (5, .int v5), (6, .long v6)] := hk59
              refine py_its (pc := 147) (pc1 := 50) (lv1 := lv58) (st1 := []) 1 (fun _ _ _ _ => rfl) ?_
              exact ih v5 v6 (v8 + Int32.ofInt (-1)) q31.2 lv58 _ hS34 ⟨lk_find hk59 rfl, lk_find hk59 rfl, lk_find hk59 rfl, lk_find hk59 rfl, lk_find hk59 rfl, lk_find hk59 rfl, lk_find hk59 rfl, lk_find hk59 rfl, trivial⟩ h
        | false =>
          have h := cd_f hb41 h
          refine py_lc (pc := 94) (len := 1) false rfl rfl hb41 ?_
          refine py_il (pc := 98) (len := 2) (j := 9) rfl hk40 rfl ?_
          refine py_st (pc := 100) (mi := mi_I_bitCount) (N := mm_I_bitCount) rfl rfl rfl (Nat.le_of_ble_eq_true rfl) (Nat.le_of_ble_eq_true rfl) rfl rfl (nm_bc_C q26 q31.2) ?_
          show px_Y mm_X_even 103 lv39 [.int (nm_bc q26)] q31.2 _ _
          refine py_il (pc := 103) (len := 2) (j := 5) rfl hk40 rfl ?_
          refine py_st (pc := 105) (mi := mi_I_bitCount) (N := mm_I_bitCount) rfl rfl rfl (Nat.le_of_ble_eq_true rfl) (Nat.le_of_ble_eq_true rfl) rfl rfl (nm_bc_C v5 q31.2) ?_
          show px_Y mm_X_even 108 lv39 [.int (nm_bc v5), .int (nm_bc q26)] q31.2 _ _
          cases hb60 : px_cmp .lt (nm_bc q26) (nm_bc v5) with
          | true =>
            have h := cd_t hb60 h
            refine py_ic (pc := 108) (len := 3) true rfl hb60 ?_
            refine py_its (pc := 115) (pc1 := 116) (lv1 := lv39) (st1 := [.int (Int32.ofInt 0)]) 1 (fun _ _ _ _ => rfl) ?_
            refine py_sti (pc := 116) (len := 2) (j := 12) rfl rfl hk40 (fun lv61 hk62 => ?_)
            have hk62 : lk lv61 [(12, .int (Int32.ofInt 0)), (10, .long q36), (9, .int q26), (0, .ref 0), (1, .int v1), (2, .int v2), (3, .int v3), (4, .int v4), (5, .int v5), (6, .long v6), (8, .int v8)] := hk62
            refine py_il (pc := 118) (len := 2) (j := 5) rfl hk62 rfl ?_
            cases hb63 : px_cmp .lt v5 0 with
            | true =>
              have h := cd_t hb63 h
              refine py_if (pc := 120) (len := 3) true rfl hb63 ?_
              refine py_il (pc := 136) (len := 2) (j := 9) rfl hk62 rfl ?_
              refine py_sti (pc := 138) (len := 2) (j := 5) rfl rfl hk62 (fun lv64 hk65 => ?_)
              have hk65 : lk lv64 [(5, .int q26), (12, .int (Int32.ofInt 0)), (10, .long q36), (9, .int q26), (0, .ref 0), (1, .int v1), (2, .int v2), (3, .int v3), (4, .int v4), (6, .long v6), (8, .int v8)] := hk65
              refine py_ll (pc := 140) (len := 2) (j := 10) rfl hk65 rfl ?_
              refine py_stl (pc := 142) (len := 2) (j := 6) rfl rfl hk65 (fun lv66 hk67 => ?_)
              have hk67 : lk lv66 [(6, .long q36), (5, .int q26), (12, .int (Int32.ofInt 0)), (10, .long q36), (9, .int q26), (0, .ref 0), (1, .int v1), (2, .int v2), (3, .int v3), (4, .int v4), (8, .int v8)] := hk67
              refine py_inc (pc := 144) (len := 3) (j := 8) (n := (-1)) rfl rfl hk67 rfl (fun lv68 hk69 => ?_)
              have hk69 : lk lv68 [(8, .int (v8 + Int32.ofInt (-1))), (6, .long q36), (5, .int q26), (12, .int (Int32.ofInt 0)), (10, .long q36), (9, .int q26), (0, .ref 0), (1, .int v1), (2, .int v2), (3, .int v3), (4, .int v4)] := hk69
              refine py_its (pc := 147) (pc1 := 50) (lv1 := lv68) (st1 := []) 1 (fun _ _ _ _ => rfl) ?_
              exact ih q26 q36 (v8 + Int32.ofInt (-1)) q31.2 lv68 _ hS34 ⟨lk_find hk69 rfl, lk_find hk69 rfl, lk_find hk69 rfl, lk_find hk69 rfl, lk_find hk69 rfl, lk_find hk69 rfl, lk_find hk69 rfl, lk_find hk69 rfl, trivial⟩ h
            | false =>
              have h := cd_f hb63 h
              refine py_if (pc := 120) (len := 3) false rfl hb63 ?_
              refine py_ll (pc := 123) (len := 2) (j := 10) rfl hk62 rfl ?_
              refine py_ll (pc := 125) (len := 2) (j := 6) rfl hk62 rfl ?_
              cases hb70 : px_cmp .lt (lg_cmp q36 v6) 0 with
              | true =>
                have h := cd_t hb70 h
                refine py_lc (pc := 127) (len := 1) true rfl rfl hb70 ?_
                refine py_il (pc := 136) (len := 2) (j := 9) rfl hk62 rfl ?_
                refine py_sti (pc := 138) (len := 2) (j := 5) rfl rfl hk62 (fun lv71 hk72 => ?_)
                have hk72 : lk lv71 [(5, .int q26), (12, .int (Int32.ofInt 0)), (10, .long q36), (9, .int q26), (0, .ref 0), (1, .int v1), (2, .int v2), (3, .int v3), (4, .int v4), (6, .long v6), (8, .int v8)] := hk72
                refine py_ll (pc := 140) (len := 2) (j := 10) rfl hk72 rfl ?_
                refine py_stl (pc := 142) (len := 2) (j := 6) rfl rfl hk72 (fun lv73 hk74 => ?_)
                have hk74 : lk lv73 [(6, .long q36), (5, .int q26), (12, .int (Int32.ofInt 0)), (10, .long q36), (9, .int q26), (0, .ref 0), (1, .int v1), (2, .int v2), (3, .int v3), (4, .int v4), (8, .int v8)] := hk74
                refine py_inc (pc := 144) (len := 3) (j := 8) (n := (-1)) rfl rfl hk74 rfl (fun lv75 hk76 => ?_)
                have hk76 : lk lv75 [(8, .int (v8 + Int32.ofInt (-1))), (6, .long q36), (5, .int q26), (12, .int (Int32.ofInt 0)), (10, .long q36), (9, .int q26), (0, .ref 0), (1, .int v1), (2, .int v2), (3, .int v3), (4, .int v4)] := hk76
                refine py_its (pc := 147) (pc1 := 50) (lv1 := lv75) (st1 := []) 1 (fun _ _ _ _ => rfl) ?_
                exact ih q26 q36 (v8 + Int32.ofInt (-1)) q31.2 lv75 _ hS34 ⟨lk_find hk76 rfl, lk_find hk76 rfl, lk_find hk76 rfl, lk_find hk76 rfl, lk_find hk76 rfl, lk_find hk76 rfl, lk_find hk76 rfl, lk_find hk76 rfl, trivial⟩ h
              | false =>
                have h := cd_f hb70 h
                refine py_lc (pc := 127) (len := 1) false rfl rfl hb70 ?_
                refine py_il (pc := 131) (len := 2) (j := 12) rfl hk62 rfl ?_
                refine py_if (pc := 133) (len := 3) true rfl (by decide) ?_
                refine py_inc (pc := 144) (len := 3) (j := 8) (n := (-1)) rfl rfl hk62 rfl (fun lv77 hk78 => ?_)
                have hk78 : lk lv77 [(8, .int (v8 + Int32.ofInt (-1))), (12, .int (Int32.ofInt 0)), (10, .long q36), (9, .int q26), (0, .ref 0), (1, .int v1), (2, .int v2), (3, .int v3), (4, .int v4), (5, .int v5), (6, .long v6)] := hk78
                refine py_its (pc := 147) (pc1 := 50) (lv1 := lv77) (st1 := []) 1 (fun _ _ _ _ => rfl) ?_
                exact ih v5 v6 (v8 + Int32.ofInt (-1)) q31.2 lv77 _ hS34 ⟨lk_find hk78 rfl, lk_find hk78 rfl, lk_find hk78 rfl, lk_find hk78 rfl, lk_find hk78 rfl, lk_find hk78 rfl, lk_find hk78 rfl, lk_find hk78 rfl, trivial⟩ h
          | false =>
            have h := cd_f hb60 h
            refine py_ic (pc := 108) (len := 3) false rfl hb60 ?_
            refine py_its (pc := 111) (pc1 := 116) (lv1 := lv39) (st1 := [.int (Int32.ofInt 1)]) 2 (fun _ _ _ _ => rfl) ?_
            refine py_sti (pc := 116) (len := 2) (j := 12) rfl rfl hk40 (fun lv79 hk80 => ?_)
            have hk80 : lk lv79 [(12, .int (Int32.ofInt 1)), (10, .long q36), (9, .int q26), (0, .ref 0), (1, .int v1), (2, .int v2), (3, .int v3), (4, .int v4), (5, .int v5), (6, .long v6), (8, .int v8)] := hk80
            refine py_il (pc := 118) (len := 2) (j := 5) rfl hk80 rfl ?_
            cases hb81 : px_cmp .lt v5 0 with
            | true =>
              have h := cd_t hb81 h
              refine py_if (pc := 120) (len := 3) true rfl hb81 ?_
              refine py_il (pc := 136) (len := 2) (j := 9) rfl hk80 rfl ?_
              refine py_sti (pc := 138) (len := 2) (j := 5) rfl rfl hk80 (fun lv82 hk83 => ?_)
              have hk83 : lk lv82 [(5, .int q26), (12, .int (Int32.ofInt 1)), (10, .long q36), (9, .int q26), (0, .ref 0), (1, .int v1), (2, .int v2), (3, .int v3), (4, .int v4), (6, .long v6), (8, .int v8)] := hk83
              refine py_ll (pc := 140) (len := 2) (j := 10) rfl hk83 rfl ?_
              refine py_stl (pc := 142) (len := 2) (j := 6) rfl rfl hk83 (fun lv84 hk85 => ?_)
              have hk85 : lk lv84 [(6, .long q36), (5, .int q26), (12, .int (Int32.ofInt 1)), (10, .long q36), (9, .int q26), (0, .ref 0), (1, .int v1), (2, .int v2), (3, .int v3), (4, .int v4), (8, .int v8)] := hk85
              refine py_inc (pc := 144) (len := 3) (j := 8) (n := (-1)) rfl rfl hk85 rfl (fun lv86 hk87 => ?_)
              have hk87 : lk lv86 [(8, .int (v8 + Int32.ofInt (-1))), (6, .long q36), (5, .int q26), (12, .int (Int32.ofInt 1)), (10, .long q36), (9, .int q26), (0, .ref 0), (1, .int v1), (2, .int v2), (3, .int v3), (4, .int v4)] := hk87
              refine py_its (pc := 147) (pc1 := 50) (lv1 := lv86) (st1 := []) 1 (fun _ _ _ _ => rfl) ?_
              exact ih q26 q36 (v8 + Int32.ofInt (-1)) q31.2 lv86 _ hS34 ⟨lk_find hk87 rfl, lk_find hk87 rfl, lk_find hk87 rfl, lk_find hk87 rfl, lk_find hk87 rfl, lk_find hk87 rfl, lk_find hk87 rfl, lk_find hk87 rfl, trivial⟩ h
            | false =>
              have h := cd_f hb81 h
              refine py_if (pc := 120) (len := 3) false rfl hb81 ?_
              refine py_ll (pc := 123) (len := 2) (j := 10) rfl hk80 rfl ?_
              refine py_ll (pc := 125) (len := 2) (j := 6) rfl hk80 rfl ?_
              cases hb88 : px_cmp .lt (lg_cmp q36 v6) 0 with
              | true =>
                have h := cd_t hb88 h
                refine py_lc (pc := 127) (len := 1) true rfl rfl hb88 ?_
                refine py_il (pc := 136) (len := 2) (j := 9) rfl hk80 rfl ?_
                refine py_sti (pc := 138) (len := 2) (j := 5) rfl rfl hk80 (fun lv89 hk90 => ?_)
                have hk90 : lk lv89 [(5, .int q26), (12, .int (Int32.ofInt 1)), (10, .long q36), (9, .int q26), (0, .ref 0), (1, .int v1), (2, .int v2), (3, .int v3), (4, .int v4), (6, .long v6), (8, .int v8)] := hk90
                refine py_ll (pc := 140) (len := 2) (j := 10) rfl hk90 rfl ?_
                refine py_stl (pc := 142) (len := 2) (j := 6) rfl rfl hk90 (fun lv91 hk92 => ?_)
                have hk92 : lk lv91 [(6, .long q36), (5, .int q26), (12, .int (Int32.ofInt 1)), (10, .long q36), (9, .int q26), (0, .ref 0), (1, .int v1), (2, .int v2), (3, .int v3), (4, .int v4), (8, .int v8)] := hk92
                refine py_inc (pc := 144) (len := 3) (j := 8) (n := (-1)) rfl rfl hk92 rfl (fun lv93 hk94 => ?_)
                have hk94 : lk lv93 [(8, .int (v8 + Int32.ofInt (-1))), (6, .long q36), (5, .int q26), (12, .int (Int32.ofInt 1)), (10, .long q36), (9, .int q26), (0, .ref 0), (1, .int v1), (2, .int v2), (3, .int v3), (4, .int v4)] := hk94
                refine py_its (pc := 147) (pc1 := 50) (lv1 := lv93) (st1 := []) 1 (fun _ _ _ _ => rfl) ?_
                exact ih q26 q36 (v8 + Int32.ofInt (-1)) q31.2 lv93 _ hS34 ⟨lk_find hk94 rfl, lk_find hk94 rfl, lk_find hk94 rfl, lk_find hk94 rfl, lk_find hk94 rfl, lk_find hk94 rfl, lk_find hk94 rfl, lk_find hk94 rfl, trivial⟩ h
              | false =>
                have h := cd_f hb88 h
                refine py_lc (pc := 127) (len := 1) false rfl rfl hb88 ?_
                refine py_il (pc := 131) (len := 2) (j := 12) rfl hk80 rfl ?_
                refine py_if (pc := 133) (len := 3) false rfl (by decide) ?_
                refine py_il (pc := 136) (len := 2) (j := 9) rfl hk80 rfl ?_
                refine py_sti (pc := 138) (len := 2) (j := 5) rfl rfl hk80 (fun lv95 hk96 => ?_)
                have hk96 : lk lv95 [(5, .int q26), (12, .int (Int32.ofInt 1)), (10, .long q36), (9, .int q26), (0, .ref 0), (1, .int v1), (2, .int v2), (3, .int v3), (4, .int v4), (6, .long v6), (8, .int v8)] := hk96
                refine py_ll (pc := 140) (len := 2) (j := 10) rfl hk96 rfl ?_
                refine py_stl (pc := 142) (len := 2) (j := 6) rfl rfl hk96 (fun lv97 hk98 => ?_)
                have hk98 : lk lv97 [(6, .long q36), (5, .int q26), (12, .int (Int32.ofInt 1)), (10, .long q36), (9, .int q26), (0, .ref 0), (1, .int v1), (2, .int v2), (3, .int v3), (4, .int v4), (8, .int v8)] := hk98
                refine py_inc (pc := 144) (len := 3) (j := 8) (n := (-1)) rfl rfl hk98 rfl (fun lv99 hk100 => ?_)
                have hk100 : lk lv99 [(8, .int (v8 + Int32.ofInt (-1))), (6, .long q36), (5, .int q26), (12, .int (Int32.ofInt 1)), (10, .long q36), (9, .int q26), (0, .ref 0), (1, .int v1), (2, .int v2), (3, .int v3), (4, .int v4)] := hk100
                refine py_its (pc := 147) (pc1 := 50) (lv1 := lv99) (st1 := []) 1 (fun _ _ _ _ => rfl) ?_
                exact ih q26 q36 (v8 + Int32.ofInt (-1)) q31.2 lv99 _ hS34 ⟨lk_find hk100 rfl, lk_find hk100 rfl, lk_find hk100 rfl, lk_find hk100 rfl, lk_find hk100 rfl, lk_find hk100 rfl, lk_find hk100 rfl, lk_find hk100 rfl, trivial⟩ h
      | false =>
        have h := cd_f hb35 h
        refine py_if (pc := 74) (len := 3) false rfl hb35 ?_
        refine py_its (pc := 77) (pc1 := 79) (lv1 := lv29) (st1 := [.int (Int8.ofInt (-3)).toInt32]) 1 (fun _ _ _ _ => rfl) ?_
        have h := Option.some.inj h
        subst h
        exact py_ir (pc := 79) (len := 1) (ty := .int) rfl rfl rfl hS34
noncomputable def fn_X_even (a1 : Int32) (a2 : Int32) (a3 : Int32) (a4 : Int32) (hp : px_H) : Option (Int32 × px_H) :=
  (fn_X_canPack a1 a2 hp).bind fun q1 =>
  bif px_cmp .eq q1 0 then
    some ((Int32.ofInt (-1)), hp)
  else
    (fn_Town_hasAll a3 hp).bind fun q5 =>
    bif px_cmp .eq q5 0 then
      some ((Int32.ofInt (-1)), hp)
    else
      bif px_cmp .eq a3 0 then
        some ((Int32.ofInt (-1)), hp)
      else
        (fn_Town_hasDrawing a4 hp).bind fun q10 =>
        bif px_cmp .ne q10 0 then
          (fn_X_fullestWay a2 hp).bind fun q14 =>
          fn_X_even_L50 a1 a2 a3 a4 fu (Int32.ofInt (-1)) (Int64.ofNat 0) q14 hp
        else
          some ((Int32.ofInt (-1)), hp)
theorem fx_X_even {a1 : Int32} {a2 : Int32} {a3 : Int32} {a4 : Int32} {hp : px_H} {res : Int32 × px_H} (hS : oS hp) (h : fn_X_even a1 a2 a3 a4 hp = some res) : px_C nm_T nm_P mi_X_even [.ref 0, .int a1, .int a2, .int a3, .int a4] hp (some (.int res.1)) res.2 ∧ oS res.2 := by
  unfold fn_X_even at h
  refine py_C (M := mm_X_even) rfl (Nat.le_of_ble_eq_true rfl) ?_
  show px_Y mm_X_even 0 [(0, .ref 0), (1, .int a1), (2, .int a2), (3, .int a3), (4, .int a4)] [] hp _ _
  refine py_its (pc := 0) (pc1 := 3) (lv1 := [(0, .ref 0), (1, .int a1), (2, .int a2), (3, .int a3), (4, .int a4)]) (st1 := [.int a2, .int a1, .ref 0]) 3 (fun _ _ _ _ => rfl) ?_
  obtain ⟨q1, hq2, h⟩ := bd_e h
  have hC3 := (fx_X_canPack hS hq2).1
  refine py_vi (pc := 3) (mi := mi_X_canPack) (cs := [0]) (N := mm_X_canPack) rfl rfl rfl rfl List.mem_cons_self hS rfl (Nat.le_of_ble_eq_true rfl) (Nat.le_of_ble_eq_true rfl) rfl rfl hC3 ?_
  show px_Y mm_X_even 6 [(0, .ref 0), (1, .int a1), (2, .int a2), (3, .int a3), (4, .int a4)] [.int q1] hp _ _
  cases hb4 : px_cmp .eq q1 0 with
  | true =>
    have h := cd_t hb4 h
    refine py_if (pc := 6) (len := 3) true rfl hb4 ?_
    refine py_its (pc := 36) (pc1 := 37) (lv1 := [(0, .ref 0), (1, .int a1), (2, .int a2), (3, .int a3), (4, .int a4)]) (st1 := [.int (Int32.ofInt (-1))]) 1 (fun _ _ _ _ => rfl) ?_
    have h := Option.some.inj h
    subst h
    exact py_ir (pc := 37) (len := 1) (ty := .int) rfl rfl rfl hS
  | false =>
    have h := cd_f hb4 h
    refine py_if (pc := 6) (len := 3) false rfl hb4 ?_
    refine py_its (pc := 9) (pc1 := 10) (lv1 := [(0, .ref 0), (1, .int a1), (2, .int a2), (3, .int a3), (4, .int a4)]) (st1 := [.ref 0]) 1 (fun _ _ _ _ => rfl) ?_
    refine py_g1 1 (pc := 10) (len := 3) (cs := [0]) rfl rfl rfl List.mem_cons_self hS ?_
    refine py_its (pc := 13) (pc1 := 14) (lv1 := [(0, .ref 0), (1, .int a1), (2, .int a2), (3, .int a3), (4, .int a4)]) (st1 := [.int a3, .ref 1]) 1 (fun _ _ _ _ => rfl) ?_
    obtain ⟨q5, hq6, h⟩ := bd_e h
    have hC7 := (fx_Town_hasAll hS hq6).1
    refine py_vi (pc := 14) (mi := mi_Town_hasAll) (cs := [1]) (N := mm_Town_hasAll) rfl rfl rfl rfl List.mem_cons_self hS rfl (Nat.le_of_ble_eq_true rfl) (Nat.le_of_ble_eq_true rfl) rfl rfl hC7 ?_
    show px_Y mm_X_even 17 [(0, .ref 0), (1, .int a1), (2, .int a2), (3, .int a3), (4, .int a4)] [.int q5] hp _ _
    cases hb8 : px_cmp .eq q5 0 with
    | true =>
      have h := cd_t hb8 h
      refine py_if (pc := 17) (len := 3) true rfl hb8 ?_
      refine py_its (pc := 36) (pc1 := 37) (lv1 := [(0, .ref 0), (1, .int a1), (2, .int a2), (3, .int a3), (4, .int a4)]) (st1 := [.int (Int32.ofInt (-1))]) 1 (fun _ _ _ _ => rfl) ?_
      have h := Option.some.inj h
      subst h
      exact py_ir (pc := 37) (len := 1) (ty := .int) rfl rfl rfl hS
    | false =>
      have h := cd_f hb8 h
      refine py_if (pc := 17) (len := 3) false rfl hb8 ?_
      refine py_its (pc := 20) (pc1 := 21) (lv1 := [(0, .ref 0), (1, .int a1), (2, .int a2), (3, .int a3), (4, .int a4)]) (st1 := [.int a3]) 1 (fun _ _ _ _ => rfl) ?_
      cases hb9 : px_cmp .eq a3 0 with
      | true =>
        have h := cd_t hb9 h
        refine py_if (pc := 21) (len := 3) true rfl hb9 ?_
        refine py_its (pc := 36) (pc1 := 37) (lv1 := [(0, .ref 0), (1, .int a1), (2, .int a2), (3, .int a3), (4, .int a4)]) (st1 := [.int (Int32.ofInt (-1))]) 1 (fun _ _ _ _ => rfl) ?_
        have h := Option.some.inj h
        subst h
        exact py_ir (pc := 37) (len := 1) (ty := .int) rfl rfl rfl hS
      | false =>
        have h := cd_f hb9 h
        refine py_if (pc := 21) (len := 3) false rfl hb9 ?_
        refine py_its (pc := 24) (pc1 := 25) (lv1 := [(0, .ref 0), (1, .int a1), (2, .int a2), (3, .int a3), (4, .int a4)]) (st1 := [.ref 0]) 1 (fun _ _ _ _ => rfl) ?_
        refine py_g1 1 (pc := 25) (len := 3) (cs := [0]) rfl rfl rfl List.mem_cons_self hS ?_
        refine py_its (pc := 28) (pc1 := 30) (lv1 := [(0, .ref 0), (1, .int a1), (2, .int a2), (3, .int a3), (4, .int a4)]) (st1 := [.int a4, .ref 1]) 1 (fun _ _ _ _ => rfl) ?_
        obtain ⟨q10, hq11, h⟩ := bd_e h
        have hC12 := (fx_Town_hasDrawing hS hq11).1
        refine py_vi (pc := 30) (mi := mi_Town_hasDrawing) (cs := [1]) (N := mm_Town_hasDrawing) rfl rfl rfl rfl List.mem_cons_self hS rfl (Nat.le_of_ble_eq_true rfl) (Nat.le_of_ble_eq_true rfl) rfl rfl hC12 ?_
        show px_Y mm_X_even 33 [(0, .ref 0), (1, .int a1), (2, .int a2), (3, .int a3), (4, .int a4)] [.int q10] hp _ _
        cases hb13 : px_cmp .ne q10 0 with
        | true =>
          have h := cd_t hb13 h
          refine py_if (pc := 33) (len := 3) true rfl hb13 ?_
          refine py_its (pc := 38) (pc1 := 45) (lv1 := [(6, .long (Int64.ofNat 0)), (5, .int (Int32.ofInt (-1))), (0, .ref 0), (1, .int a1), (2, .int a2), (3, .int a3), (4, .int a4)]) (st1 := [.int a2]) 5 (fun _ _ _ _ => rfl) ?_
          obtain ⟨q14, hq15, h⟩ := bd_e h
          have hC16 := (fx_X_fullestWay hS hq15).1
          refine py_st (pc := 45) (mi := mi_X_fullestWay) (N := mm_X_fullestWay) rfl rfl rfl (Nat.le_of_ble_eq_true rfl) (Nat.le_of_ble_eq_true rfl) rfl rfl hC16 ?_
          show px_Y mm_X_even 48 [(6, .long (Int64.ofNat 0)), (5, .int (Int32.ofInt (-1))), (0, .ref 0), (1, .int a1), (2, .int a2), (3, .int a3), (4, .int a4)] [.int q14] hp _ _
          refine py_its (pc := 48) (pc1 := 50) (lv1 := [(8, .int q14), (6, .long (Int64.ofNat 0)), (5, .int (Int32.ofInt (-1))), (0, .ref 0), (1, .int a1), (2, .int a2), (3, .int a3), (4, .int a4)]) (st1 := []) 1 (fun _ _ _ _ => rfl) ?_
          exact fl_X_even_L50 fu (Int32.ofInt (-1)) (Int64.ofNat 0) q14 hp [(8, .int q14), (6, .long (Int64.ofNat 0)), (5, .int (Int32.ofInt (-1))), (0, .ref 0), (1, .int a1), (2, .int a2), (3, .int a3), (4, .int a4)] _ hS ⟨rfl, rfl, rfl, rfl, rfl, rfl, rfl, rfl, trivial⟩ h
        | false =>
          have h := cd_f hb13 h
          refine py_if (pc := 33) (len := 3) false rfl hb13 ?_
          refine py_its (pc := 36) (pc1 := 37) (lv1 := [(0, .ref 0), (1, .int a1), (2, .int a2), (3, .int a3), (4, .int a4)]) (st1 := [.int (Int32.ofInt (-1))]) 1 (fun _ _ _ _ => rfl) ?_
          have h := Option.some.inj h
          subst h
          exact py_ir (pc := 37) (len := 1) (ty := .int) rfl rfl rfl hS
/-! X_fair -/
noncomputable def fb_X_fair_L66 (v1 : Int32) (v2 : Int32) (rc : Int32 → Int64 → Int32 → px_H → Option (Int32 × px_H)) (v3 : Int32) (v4 : Int64) (v6 : Int32) (hp : px_H) : Option (Int32 × px_H) :=
  bif px_cmp .ge v6 (Int32.ofInt 3) then
    (fn_Row_tellOne v4 hp).bind fun q20 =>
    some (v3, q20)
  else
    bif px_cmp .ne (((gI hp 0 4) >>> (v6 &&& 31)) &&& (Int32.ofInt 1)) 0 then
      bif px_inR v6 3 then
      (fn_X_walkBy (aR hp 18 v6.toNatClampNeg) (Int32.ofInt 0) v2 hp).bind fun q27 =>
      bif px_cmp .ne q27.1 0 then
        (fn_Walk_howUnlike v1 q27.2).bind fun q32 =>
        bif px_cmp .ge (lg_cmp q32 v4) 0 then
          rc v3 v4 (v6 + Int32.ofInt 1) q27.2
        else
          rc v6 q32 (v6 + Int32.ofInt 1) q27.2
      else
        some ((Int8.ofInt (-3)).toInt32, q27.2)
      else none
    else
      rc v3 v4 (v6 + Int32.ofInt 1) hp
noncomputable def fn_X_fair_L66 (v1 : Int32) (v2 : Int32) : Nat → Int32 → Int64 → Int32 → px_H → Option (Int32 × px_H)
  | 0 => fun _ _ _ _ => none
  | n + 1 => fb_X_fair_L66 v1 v2 (fn_X_fair_L66 v1 v2 n)
theorem fl_X_fair_L66 {v1 : Int32} {v2 : Int32}  : ∀ (n : Nat) (v3 : Int32) (v4 : Int64) (v6 : Int32) (hp : px_H) (lv : List (Nat × Value)) (res : Int32 × px_H), oS hp → lk lv [(0, .ref 0), (1, .int v1), (2, .int v2), (3, .int v3), (4, .long v4), (6, .int v6)] → fn_X_fair_L66 v1 v2 n v3 v4 v6 hp = some res → px_Y mm_X_fair 66 lv [] hp (some (.int res.1)) res.2 := by
  intro n
  induction n with
  | zero =>
    intro v3 v4 v6 hp lv res hS hk h
    cases h
  | succ n ih =>
    intro v3 v4 v6 hp lv res hS hk h
    have h : fb_X_fair_L66 v1 v2 (fn_X_fair_L66 v1 v2 n) v3 v4 v6 hp = some res := h
    unfold fb_X_fair_L66 at h
    refine py_il (pc := 66) (len := 2) (j := 6) rfl hk rfl ?_
    refine py_its (pc := 68) (pc1 := 69) (lv1 := lv) (st1 := [.int (Int32.ofInt 3), .int v6]) 1 (fun _ _ _ _ => rfl) ?_
    cases hb19 : px_cmp .ge v6 (Int32.ofInt 3) with
    | true =>
      have h := cd_t hb19 h
      refine py_ic (pc := 69) (len := 3) true rfl hb19 ?_
      refine py_aln (pc := 137) (len := 1) (j := 0) rfl hk rfl ?_
      refine py_g1 48 (pc := 138) (len := 3) (cs := [0]) rfl rfl rfl List.mem_cons_self hS ?_
      refine py_ll (pc := 141) (len := 2) (j := 4) rfl hk rfl ?_
      obtain ⟨q20, hq21, h⟩ := bd_e h
      obtain ⟨hC22, hS23⟩ := fx_Row_tellOne hS hq21
      refine py_vi (pc := 143) (mi := mi_Row_tellOne) (cs := [48]) (N := mm_Row_tellOne) rfl rfl rfl rfl List.mem_cons_self hS rfl (Nat.le_of_ble_eq_true rfl) (Nat.le_of_ble_eq_true rfl) rfl rfl hC22 ?_
      show px_Y mm_X_fair 146 lv [] q20 _ _
      refine py_iln (pc := 146) (len := 1) (j := 3) rfl hk rfl ?_
      have h := Option.some.inj h
      subst h
      exact py_ir (pc := 147) (len := 1) (ty := .int) rfl rfl rfl hS23
    | false =>
      have h := cd_f hb19 h
      refine py_ic (pc := 69) (len := 3) false rfl hb19 ?_
      refine py_aln (pc := 72) (len := 1) (j := 0) rfl hk rfl ?_
      refine py_gI (pc := 73) (len := 3) (cs := [0]) rfl rfl rfl List.mem_cons_self hS ?_
      refine py_il (pc := 76) (len := 2) (j := 6) rfl hk rfl ?_
      refine py_its (pc := 78) (pc1 := 81) (lv1 := lv) (st1 := [.int (((gI hp 0 4) >>> (v6 &&& 31)) &&& (Int32.ofInt 1))]) 3 (fun _ _ _ _ => rfl) ?_
      cases hb24 : px_cmp .ne (((gI hp 0 4) >>> (v6 &&& 31)) &&& (Int32.ofInt 1)) 0 with
      | true =>
        have h := cd_t hb24 h
        refine py_if (pc := 81) (len := 3) true rfl hb24 ?_
        refine py_aln (pc := 87) (len := 1) (j := 0) rfl hk rfl ?_
        refine py_aln (pc := 88) (len := 1) (j := 0) rfl hk rfl ?_
        refine py_g1 18 (pc := 89) (len := 3) (cs := [0]) rfl rfl rfl List.mem_cons_self hS ?_
        refine py_il (pc := 92) (len := 2) (j := 6) rfl hk rfl ?_
        obtain ⟨hi25, h⟩ := cd_n h
        refine py_ar [54, 58, 62] (pc := 94) (len := 1) (cs := [18]) (t := 22) (n := 3) rfl rfl rfl hi25 List.mem_cons_self hS (fun hm26 => ?_)
        refine py_its (pc := 95) (pc1 := 96) (lv1 := lv) (st1 := [.int (Int32.ofInt 0), .ref (aR hp 18 v6.toNatClampNeg), .ref 0]) 1 (fun _ _ _ _ => rfl) ?_
        refine py_iln (pc := 96) (len := 1) (j := 2) rfl hk rfl ?_
        obtain ⟨q27, hq28, h⟩ := bd_e h
        obtain ⟨hC29, hS30⟩ := fx_X_walkBy (sx_sub rfl hm26) hS hq28
        refine py_vi (pc := 97) (mi := mi_X_walkBy) (cs := [0]) (N := mm_X_walkBy) rfl rfl rfl rfl List.mem_cons_self hS rfl (Nat.le_of_ble_eq_true rfl) (Nat.le_of_ble_eq_true rfl) rfl rfl hC29 ?_
        show px_Y mm_X_fair 100 lv [.int q27.1] q27.2 _ _
        cases hb31 : px_cmp .ne q27.1 0 with
        | true =>
          have h := cd_t hb31 h
          refine py_if (pc := 100) (len := 3) true rfl hb31 ?_
          refine py_aln (pc := 106) (len := 1) (j := 0) rfl hk rfl ?_
          refine py_g1 28 (pc := 107) (len := 3) (cs := [0]) rfl rfl rfl List.mem_cons_self hS30 ?_
          refine py_iln (pc := 110) (len := 1) (j := 1) rfl hk rfl ?_
          obtain ⟨q32, hq33, h⟩ := bd_e h
          have hC34 := (fx_Walk_howUnlike hS30 hq33).1
          refine py_vi (pc := 111) (mi := mi_Walk_howUnlike) (cs := [28]) (N := mm_Walk_howUnlike) rfl rfl rfl rfl List.mem_cons_self hS30 rfl (Nat.le_of_ble_eq_true rfl) (Nat.le_of_ble_eq_true rfl) rfl rfl hC34 ?_
          show px_Y mm_X_fair 114 lv [.long q32] q27.2 _ _
          refine py_stl (pc := 114) (len := 2) (j := 7) rfl rfl hk (fun lv35 hk36 => ?_)
          have hk36 : lk lv35 [(7, .long q32), (0, .ref 0), (1, .int v1), (2, .int v2), (3, .int v3), (4, .long v4), (6, .int v6)] := hk36
          refine py_ll (pc := 116) (len := 2) (j := 7) rfl hk36 rfl ?_
          refine py_ll (pc := 118) (len := 2) (j := 4) rfl hk36 rfl ?_
          cases hb37 : px_cmp .ge (lg_cmp q32 v4) 0 with
          | true =>
            have h := cd_t hb37 h
            refine py_lc (pc := 120) (len := 1) true rfl rfl hb37 ?_
            refine py_inc (pc := 131) (len := 3) (j := 6) (n := 1) rfl rfl hk36 rfl (fun lv38 hk39 => ?_)
            have hk39 : lk lv38 [(6, .int (v6 + Int32.ofInt 1)), (7, .long q32), (0, .ref 0), (1, .int v1), (2, .int v2), (3, .int v3), (4, .long v4)] := hk39
            refine py_its (pc := 134) (pc1 := 66) (lv1 := lv38) (st1 := []) 1 (fun _ _ _ _ => rfl) ?_
            exact ih v3 v4 (v6 + Int32.ofInt 1) q27.2 lv38 _ hS30 ⟨lk_find hk39 rfl, lk_find hk39 rfl, lk_find hk39 rfl, lk_find hk39 rfl, lk_find hk39 rfl, lk_find hk39 rfl, trivial⟩ h
          | false =>
            have h := cd_f hb37 h
            refine py_lc (pc := 120) (len := 1) false rfl rfl hb37 ?_
            refine py_ll (pc := 124) (len := 2) (j := 7) rfl hk36 rfl ?_
            refine py_stl (pc := 126) (len := 2) (j := 4) rfl rfl hk36 (fun lv40 hk41 => ?_)
            have hk41 : lk lv40 [(4, .long q32), (7, .long q32), (0, .ref 0), (1, .int v1), (2, .int v2), (3, .int v3), (6, .int v6)] := hk41
            refine py_il (pc := 128) (len := 2) (j := 6) rfl hk41 rfl ?_
            refine py_sin (pc := 130) (len := 1) (j := 3) rfl rfl hk41 (fun lv42 hk43 => ?_)
            have hk43 : lk lv42 [(3, .int v6), (4, .long q32), (7, .long q32), (0, .ref 0), (1, .int v1), (2, .int v2), (6, .int v6)] := hk43
            refine py_inc (pc := 131) (len := 3) (j := 6) (n := 1) rfl rfl hk43 rfl (fun lv44 hk45 => ?_)
            have hk45 : lk lv44 [(6, .int (v6 + Int32.ofInt 1)), (3, .int v6), (4, .long q32), (7, .long q32), (0, .ref 0), (1, .int v1), (2, .int v2)] := hk45
            refine py_its (pc := 134) (pc1 := 66) (lv1 := lv44) (st1 := []) 1 (fun _ _ _ _ => rfl) ?_
            exact ih v6 q32 (v6 + Int32.ofInt 1) q27.2 lv44 _ hS30 ⟨lk_find hk45 rfl, lk_find hk45 rfl, lk_find hk45 rfl, lk_find hk45 rfl, lk_find hk45 rfl, lk_find hk45 rfl, trivial⟩ h
        | false =>
          have h := cd_f hb31 h
          refine py_if (pc := 100) (len := 3) false rfl hb31 ?_
          refine py_its (pc := 103) (pc1 := 105) (lv1 := lv) (st1 := [.int (Int8.ofInt (-3)).toInt32]) 1 (fun _ _ _ _ => rfl) ?_
          have h := Option.some.inj h
          subst h
          exact py_ir (pc := 105) (len := 1) (ty := .int) rfl rfl rfl hS30
      | false =>
        have h := cd_f hb24 h
        refine py_if (pc := 81) (len := 3) false rfl hb24 ?_
        refine py_its (pc := 84) (pc1 := 131) (lv1 := lv) (st1 := []) 1 (fun _ _ _ _ => rfl) ?_
        refine py_inc (pc := 131) (len := 3) (j := 6) (n := 1) rfl rfl hk rfl (fun lv46 hk47 => ?_)
        have hk47 : lk lv46 [(6, .int (v6 + Int32.ofInt 1)), (0, .ref 0), (1, .int v1), (2, .int v2), (3, .int v3), (4, .long v4)] := hk47
        refine py_its (pc := 134) (pc1 := 66) (lv1 := lv46) (st1 := []) 1 (fun _ _ _ _ => rfl) ?_
        exact ih v3 v4 (v6 + Int32.ofInt 1) hp lv46 _ hS ⟨lk_find hk47 rfl, lk_find hk47 rfl, lk_find hk47 rfl, lk_find hk47 rfl, lk_find hk47 rfl, lk_find hk47 rfl, trivial⟩ h
noncomputable def fn_X_fair (a1 : Int32) (a2 : Int32) (hp : px_H) : Option (Int32 × px_H) :=
  (fn_Town_hasAll a1 hp).bind fun q1 =>
  bif px_cmp .eq q1 0 then
    some ((Int32.ofInt (-1)), hp)
  else
    bif px_cmp .eq a1 0 then
      some ((Int32.ofInt (-1)), hp)
    else
      (fn_X_isAhead a2 hp).bind fun q6 =>
      bif px_cmp .ne q6 0 then
        (fn_X_walkBy 14 (Int32.ofInt 0) a2 hp).bind fun q10 =>
        bif px_cmp .ne q10.1 0 then
          bif px_cmp .ne (gI q10.2 0 4) 0 then
            (fn_Walk_howUnlike a1 q10.2).bind fun q16 =>
            fn_X_fair_L66 a1 a2 fu (Int32.ofInt 3) q16 (Int32.ofInt 0) q10.2
          else
            some ((Int8.ofInt (-4)).toInt32, q10.2)
        else
          some ((Int8.ofInt (-3)).toInt32, q10.2)
      else
        some ((Int32.ofInt (-1)), hp)
theorem fx_X_fair {a1 : Int32} {a2 : Int32} {hp : px_H} {res : Int32 × px_H} (hS : oS hp) (h : fn_X_fair a1 a2 hp = some res) : px_C nm_T nm_P mi_X_fair [.ref 0, .int a1, .int a2] hp (some (.int res.1)) res.2 ∧ oS res.2 := by
  unfold fn_X_fair at h
  refine py_C (M := mm_X_fair) rfl (Nat.le_of_ble_eq_true rfl) ?_
  show px_Y mm_X_fair 0 [(0, .ref 0), (1, .int a1), (2, .int a2)] [] hp _ _
  refine py_its (pc := 0) (pc1 := 1) (lv1 := [(0, .ref 0), (1, .int a1), (2, .int a2)]) (st1 := [.ref 0]) 1 (fun _ _ _ _ => rfl) ?_
  refine py_g1 1 (pc := 1) (len := 3) (cs := [0]) rfl rfl rfl List.mem_cons_self hS ?_
  refine py_its (pc := 4) (pc1 := 5) (lv1 := [(0, .ref 0), (1, .int a1), (2, .int a2)]) (st1 := [.int a1, .ref 1]) 1 (fun _ _ _ _ => rfl) ?_
  obtain ⟨q1, hq2, h⟩ := bd_e h
  have hC3 := (fx_Town_hasAll hS hq2).1
  refine py_vi (pc := 5) (mi := mi_Town_hasAll) (cs := [1]) (N := mm_Town_hasAll) rfl rfl rfl rfl List.mem_cons_self hS rfl (Nat.le_of_ble_eq_true rfl) (Nat.le_of_ble_eq_true rfl) rfl rfl hC3 ?_
  show px_Y mm_X_fair 8 [(0, .ref 0), (1, .int a1), (2, .int a2)] [.int q1] hp _ _
  cases hb4 : px_cmp .eq q1 0 with
  | true =>
    have h := cd_t hb4 h
    refine py_if (pc := 8) (len := 3) true rfl hb4 ?_
    refine py_its (pc := 23) (pc1 := 24) (lv1 := [(0, .ref 0), (1, .int a1), (2, .int a2)]) (st1 := [.int (Int32.ofInt (-1))]) 1 (fun _ _ _ _ => rfl) ?_
    have h := Option.some.inj h
    subst h
    exact py_ir (pc := 24) (len := 1) (ty := .int) rfl rfl rfl hS
  | false =>
    have h := cd_f hb4 h
    refine py_if (pc := 8) (len := 3) false rfl hb4 ?_
    refine py_its (pc := 11) (pc1 := 12) (lv1 := [(0, .ref 0), (1, .int a1), (2, .int a2)]) (st1 := [.int a1]) 1 (fun _ _ _ _ => rfl) ?_
    cases hb5 : px_cmp .eq a1 0 with
    | true =>
      have h := cd_t hb5 h
      refine py_if (pc := 12) (len := 3) true rfl hb5 ?_
      refine py_its (pc := 23) (pc1 := 24) (lv1 := [(0, .ref 0), (1, .int a1), (2, .int a2)]) (st1 := [.int (Int32.ofInt (-1))]) 1 (fun _ _ _ _ => rfl) ?_
      have h := Option.some.inj h
      subst h
      exact py_ir (pc := 24) (len := 1) (ty := .int) rfl rfl rfl hS
    | false =>
      have h := cd_f hb5 h
      refine py_if (pc := 12) (len := 3) false rfl hb5 ?_
      refine py_its (pc := 15) (pc1 := 17) (lv1 := [(0, .ref 0), (1, .int a1), (2, .int a2)]) (st1 := [.int a2, .ref 0]) 2 (fun _ _ _ _ => rfl) ?_
      obtain ⟨q6, hq7, h⟩ := bd_e h
      have hC8 := (fx_X_isAhead hS hq7).1
      refine py_vi (pc := 17) (mi := mi_X_isAhead) (cs := [0]) (N := mm_X_isAhead) rfl rfl rfl rfl List.mem_cons_self hS rfl (Nat.le_of_ble_eq_true rfl) (Nat.le_of_ble_eq_true rfl) rfl rfl hC8 ?_
      show px_Y mm_X_fair 20 [(0, .ref 0), (1, .int a1), (2, .int a2)] [.int q6] hp _ _
      cases hb9 : px_cmp .ne q6 0 with
      | true =>
        have h := cd_t hb9 h
        refine py_if (pc := 20) (len := 3) true rfl hb9 ?_
        refine py_its (pc := 25) (pc1 := 27) (lv1 := [(0, .ref 0), (1, .int a1), (2, .int a2)]) (st1 := [.ref 0, .ref 0]) 2 (fun _ _ _ _ => rfl) ?_
        refine py_g1 14 (pc := 27) (len := 3) (cs := [0]) rfl rfl rfl List.mem_cons_self hS ?_
        refine py_its (pc := 30) (pc1 := 32) (lv1 := [(0, .ref 0), (1, .int a1), (2, .int a2)]) (st1 := [.int a2, .int (Int32.ofInt 0), .ref 14, .ref 0]) 2 (fun _ _ _ _ => rfl) ?_
        obtain ⟨q10, hq11, h⟩ := bd_e h
        obtain ⟨hC12, hS13⟩ := fx_X_walkBy (List.mem_of_elem_eq_true rfl) hS hq11
        refine py_vi (pc := 32) (mi := mi_X_walkBy) (cs := [0]) (N := mm_X_walkBy) rfl rfl rfl rfl List.mem_cons_self hS rfl (Nat.le_of_ble_eq_true rfl) (Nat.le_of_ble_eq_true rfl) rfl rfl hC12 ?_
        show px_Y mm_X_fair 35 [(0, .ref 0), (1, .int a1), (2, .int a2)] [.int q10.1] q10.2 _ _
        cases hb14 : px_cmp .ne q10.1 0 with
        | true =>
          have h := cd_t hb14 h
          refine py_if (pc := 35) (len := 3) true rfl hb14 ?_
          refine py_its (pc := 41) (pc1 := 42) (lv1 := [(0, .ref 0), (1, .int a1), (2, .int a2)]) (st1 := [.ref 0]) 1 (fun _ _ _ _ => rfl) ?_
          refine py_gI (pc := 42) (len := 3) (cs := [0]) rfl rfl rfl List.mem_cons_self hS13 ?_
          cases hb15 : px_cmp .ne (gI q10.2 0 4) 0 with
          | true =>
            have h := cd_t hb15 h
            refine py_if (pc := 45) (len := 3) true rfl hb15 ?_
            refine py_its (pc := 51) (pc1 := 54) (lv1 := [(3, .int (Int32.ofInt 3)), (0, .ref 0), (1, .int a1), (2, .int a2)]) (st1 := [.ref 0]) 3 (fun _ _ _ _ => rfl) ?_
            refine py_g1 28 (pc := 54) (len := 3) (cs := [0]) rfl rfl rfl List.mem_cons_self hS13 ?_
            refine py_its (pc := 57) (pc1 := 58) (lv1 := [(3, .int (Int32.ofInt 3)), (0, .ref 0), (1, .int a1), (2, .int a2)]) (st1 := [.int a1, .ref 28]) 1 (fun _ _ _ _ => rfl) ?_
            obtain ⟨q16, hq17, h⟩ := bd_e h
            have hC18 := (fx_Walk_howUnlike hS13 hq17).1
            refine py_vi (pc := 58) (mi := mi_Walk_howUnlike) (cs := [28]) (N := mm_Walk_howUnlike) rfl rfl rfl rfl List.mem_cons_self hS13 rfl (Nat.le_of_ble_eq_true rfl) (Nat.le_of_ble_eq_true rfl) rfl rfl hC18 ?_
            show px_Y mm_X_fair 61 [(3, .int (Int32.ofInt 3)), (0, .ref 0), (1, .int a1), (2, .int a2)] [.long q16] q10.2 _ _
            refine py_its (pc := 61) (pc1 := 66) (lv1 := [(6, .int (Int32.ofInt 0)), (4, .long q16), (3, .int (Int32.ofInt 3)), (0, .ref 0), (1, .int a1), (2, .int a2)]) (st1 := []) 3 (fun _ _ _ _ => rfl) ?_
            exact fl_X_fair_L66 fu (Int32.ofInt 3) q16 (Int32.ofInt 0) q10.2 [(6, .int (Int32.ofInt 0)), (4, .long q16), (3, .int (Int32.ofInt 3)), (0, .ref 0), (1, .int a1), (2, .int a2)] _ hS13 ⟨rfl, rfl, rfl, rfl, rfl, rfl, trivial⟩ h
          | false =>
            have h := cd_f hb15 h
            refine py_if (pc := 45) (len := 3) false rfl hb15 ?_
            refine py_its (pc := 48) (pc1 := 50) (lv1 := [(0, .ref 0), (1, .int a1), (2, .int a2)]) (st1 := [.int (Int8.ofInt (-4)).toInt32]) 1 (fun _ _ _ _ => rfl) ?_
            have h := Option.some.inj h
            subst h
            exact py_ir (pc := 50) (len := 1) (ty := .int) rfl rfl rfl hS13
        | false =>
          have h := cd_f hb14 h
          refine py_if (pc := 35) (len := 3) false rfl hb14 ?_
          refine py_its (pc := 38) (pc1 := 40) (lv1 := [(0, .ref 0), (1, .int a1), (2, .int a2)]) (st1 := [.int (Int8.ofInt (-3)).toInt32]) 1 (fun _ _ _ _ => rfl) ?_
          have h := Option.some.inj h
          subst h
          exact py_ir (pc := 40) (len := 1) (ty := .int) rfl rfl rfl hS13
      | false =>
        have h := cd_f hb9 h
        refine py_if (pc := 20) (len := 3) false rfl hb9 ?_
        refine py_its (pc := 23) (pc1 := 24) (lv1 := [(0, .ref 0), (1, .int a1), (2, .int a2)]) (st1 := [.int (Int32.ofInt (-1))]) 1 (fun _ _ _ _ => rfl) ?_
        have h := Option.some.inj h
        subst h
        exact py_ir (pc := 24) (len := 1) (ty := .int) rfl rfl rfl hS
/-! X_war -/
noncomputable def fn_X_war (a1 : Int32) (a2 : Int32) (hp : px_H) : Option (Int32 × px_H) :=
  (fn_Town_hasAll a1 hp).bind fun q1 =>
  bif px_cmp .eq q1 0 then
    some ((Int32.ofInt (-1)), hp)
  else
    (fn_X_isAhead a2 hp).bind fun q5 =>
    bif px_cmp .ne q5 0 then
      bif px_inR a2 6 then
      (fn_X_walkBy 14 a1 a2 hp).bind fun q10 =>
      bif px_cmp .ne q10.1 0 then
        (fn_Walk_chanceOfLess (aI hp 11 a2.toNatClampNeg) q10.2).bind fun q15 =>
        (fn_X_walkBy 14 (Int32.ofInt 0) a2 q10.2).bind fun q18 =>
        bif px_cmp .ne q18.1 0 then
          (fn_Row_tellOne q15 q18.2).bind fun q23 =>
          (fn_Walk_chanceOfLess (aI hp 11 a2.toNatClampNeg) q23).bind fun q27 =>
          (fn_Row_tell q27 q23).bind fun q30 =>
          some ((Int32.ofInt 0), q30)
        else
          some ((Int8.ofInt (-3)).toInt32, q18.2)
      else
        some ((Int8.ofInt (-3)).toInt32, q10.2)
      else none
    else
      some ((Int32.ofInt (-1)), hp)
theorem fx_X_war {a1 : Int32} {a2 : Int32} {hp : px_H} {res : Int32 × px_H} (hS : oS hp) (h : fn_X_war a1 a2 hp = some res) : px_C nm_T nm_P mi_X_war [.ref 0, .int a1, .int a2] hp (some (.int res.1)) res.2 ∧ oS res.2 := by
  unfold fn_X_war at h
  refine py_C (M := mm_X_war) rfl (Nat.le_of_ble_eq_true rfl) ?_
  show px_Y mm_X_war 0 [(0, .ref 0), (1, .int a1), (2, .int a2)] [] hp _ _
  refine py_its (pc := 0) (pc1 := 1) (lv1 := [(0, .ref 0), (1, .int a1), (2, .int a2)]) (st1 := [.ref 0]) 1 (fun _ _ _ _ => rfl) ?_
  refine py_g1 1 (pc := 1) (len := 3) (cs := [0]) rfl rfl rfl List.mem_cons_self hS ?_
  refine py_its (pc := 4) (pc1 := 5) (lv1 := [(0, .ref 0), (1, .int a1), (2, .int a2)]) (st1 := [.int a1, .ref 1]) 1 (fun _ _ _ _ => rfl) ?_
  obtain ⟨q1, hq2, h⟩ := bd_e h
  have hC3 := (fx_Town_hasAll hS hq2).1
  refine py_vi (pc := 5) (mi := mi_Town_hasAll) (cs := [1]) (N := mm_Town_hasAll) rfl rfl rfl rfl List.mem_cons_self hS rfl (Nat.le_of_ble_eq_true rfl) (Nat.le_of_ble_eq_true rfl) rfl rfl hC3 ?_
  show px_Y mm_X_war 8 [(0, .ref 0), (1, .int a1), (2, .int a2)] [.int q1] hp _ _
  cases hb4 : px_cmp .eq q1 0 with
  | true =>
    have h := cd_t hb4 h
    refine py_if (pc := 8) (len := 3) true rfl hb4 ?_
    refine py_its (pc := 19) (pc1 := 20) (lv1 := [(0, .ref 0), (1, .int a1), (2, .int a2)]) (st1 := [.int (Int32.ofInt (-1))]) 1 (fun _ _ _ _ => rfl) ?_
    have h := Option.some.inj h
    subst h
    exact py_ir (pc := 20) (len := 1) (ty := .int) rfl rfl rfl hS
  | false =>
    have h := cd_f hb4 h
    refine py_if (pc := 8) (len := 3) false rfl hb4 ?_
    refine py_its (pc := 11) (pc1 := 13) (lv1 := [(0, .ref 0), (1, .int a1), (2, .int a2)]) (st1 := [.int a2, .ref 0]) 2 (fun _ _ _ _ => rfl) ?_
    obtain ⟨q5, hq6, h⟩ := bd_e h
    have hC7 := (fx_X_isAhead hS hq6).1
    refine py_vi (pc := 13) (mi := mi_X_isAhead) (cs := [0]) (N := mm_X_isAhead) rfl rfl rfl rfl List.mem_cons_self hS rfl (Nat.le_of_ble_eq_true rfl) (Nat.le_of_ble_eq_true rfl) rfl rfl hC7 ?_
    show px_Y mm_X_war 16 [(0, .ref 0), (1, .int a1), (2, .int a2)] [.int q5] hp _ _
    cases hb8 : px_cmp .ne q5 0 with
    | true =>
      have h := cd_t hb8 h
      refine py_if (pc := 16) (len := 3) true rfl hb8 ?_
      refine py_its (pc := 21) (pc1 := 22) (lv1 := [(0, .ref 0), (1, .int a1), (2, .int a2)]) (st1 := [.ref 0]) 1 (fun _ _ _ _ => rfl) ?_
      refine py_g1 1 (pc := 22) (len := 3) (cs := [0]) rfl rfl rfl List.mem_cons_self hS ?_
      refine py_g1 11 (pc := 25) (len := 3) (cs := [1]) rfl rfl rfl List.mem_cons_self hS ?_
      refine py_its (pc := 28) (pc1 := 29) (lv1 := [(0, .ref 0), (1, .int a1), (2, .int a2)]) (st1 := [.int a2, .ref 11]) 1 (fun _ _ _ _ => rfl) ?_
      obtain ⟨hi9, h⟩ := cd_n h
      refine py_ai (pc := 29) (len := 1) (cs := [11]) (t := 21) (n := 6) rfl rfl rfl hi9 List.mem_cons_self hS ?_
      refine py_its (pc := 30) (pc1 := 33) (lv1 := [(3, .int (aI hp 11 a2.toNatClampNeg)), (0, .ref 0), (1, .int a1), (2, .int a2)]) (st1 := [.ref 0, .ref 0]) 3 (fun _ _ _ _ => rfl) ?_
      refine py_g1 14 (pc := 33) (len := 3) (cs := [0]) rfl rfl rfl List.mem_cons_self hS ?_
      refine py_its (pc := 36) (pc1 := 38) (lv1 := [(3, .int (aI hp 11 a2.toNatClampNeg)), (0, .ref 0), (1, .int a1), (2, .int a2)]) (st1 := [.int a2, .int a1, .ref 14, .ref 0]) 2 (fun _ _ _ _ => rfl) ?_
      obtain ⟨q10, hq11, h⟩ := bd_e h
      obtain ⟨hC12, hS13⟩ := fx_X_walkBy (List.mem_of_elem_eq_true rfl) hS hq11
      refine py_vi (pc := 38) (mi := mi_X_walkBy) (cs := [0]) (N := mm_X_walkBy) rfl rfl rfl rfl List.mem_cons_self hS rfl (Nat.le_of_ble_eq_true rfl) (Nat.le_of_ble_eq_true rfl) rfl rfl hC12 ?_
      show px_Y mm_X_war 41 [(3, .int (aI hp 11 a2.toNatClampNeg)), (0, .ref 0), (1, .int a1), (2, .int a2)] [.int q10.1] q10.2 _ _
      cases hb14 : px_cmp .ne q10.1 0 with
      | true =>
        have h := cd_t hb14 h
        refine py_if (pc := 41) (len := 3) true rfl hb14 ?_
        refine py_its (pc := 47) (pc1 := 48) (lv1 := [(3, .int (aI hp 11 a2.toNatClampNeg)), (0, .ref 0), (1, .int a1), (2, .int a2)]) (st1 := [.ref 0]) 1 (fun _ _ _ _ => rfl) ?_
        refine py_g1 28 (pc := 48) (len := 3) (cs := [0]) rfl rfl rfl List.mem_cons_self hS13 ?_
        refine py_its (pc := 51) (pc1 := 52) (lv1 := [(3, .int (aI hp 11 a2.toNatClampNeg)), (0, .ref 0), (1, .int a1), (2, .int a2)]) (st1 := [.int (aI hp 11 a2.toNatClampNeg), .ref 28]) 1 (fun _ _ _ _ => rfl) ?_
        obtain ⟨q15, hq16, h⟩ := bd_e h
        have hC17 := (fx_Walk_chanceOfLess hS13 hq16).1
        refine py_vi (pc := 52) (mi := mi_Walk_chanceOfLess) (cs := [28]) (N := mm_Walk_chanceOfLess) rfl rfl rfl rfl List.mem_cons_self hS13 rfl (Nat.le_of_ble_eq_true rfl) (Nat.le_of_ble_eq_true rfl) rfl rfl hC17 ?_
        show px_Y mm_X_war 55 [(3, .int (aI hp 11 a2.toNatClampNeg)), (0, .ref 0), (1, .int a1), (2, .int a2)] [.long q15] q10.2 _ _
        refine py_its (pc := 55) (pc1 := 59) (lv1 := [(4, .long q15), (3, .int (aI hp 11 a2.toNatClampNeg)), (0, .ref 0), (1, .int a1), (2, .int a2)]) (st1 := [.ref 0, .ref 0]) 3 (fun _ _ _ _ => rfl) ?_
        refine py_g1 14 (pc := 59) (len := 3) (cs := [0]) rfl rfl rfl List.mem_cons_self hS13 ?_
        refine py_its (pc := 62) (pc1 := 64) (lv1 := [(4, .long q15), (3, .int (aI hp 11 a2.toNatClampNeg)), (0, .ref 0), (1, .int a1), (2, .int a2)]) (st1 := [.int a2, .int (Int32.ofInt 0), .ref 14, .ref 0]) 2 (fun _ _ _ _ => rfl) ?_
        obtain ⟨q18, hq19, h⟩ := bd_e h
        obtain ⟨hC20, hS21⟩ := fx_X_walkBy (List.mem_of_elem_eq_true rfl) hS13 hq19
        refine py_vi (pc := 64) (mi := mi_X_walkBy) (cs := [0]) (N := mm_X_walkBy) rfl rfl rfl rfl List.mem_cons_self hS13 rfl (Nat.le_of_ble_eq_true rfl) (Nat.le_of_ble_eq_true rfl) rfl rfl hC20 ?_
        show px_Y mm_X_war 67 [(4, .long q15), (3, .int (aI hp 11 a2.toNatClampNeg)), (0, .ref 0), (1, .int a1), (2, .int a2)] [.int q18.1] q18.2 _ _
        cases hb22 : px_cmp .ne q18.1 0 with
        | true =>
          have h := cd_t hb22 h
          refine py_if (pc := 67) (len := 3) true rfl hb22 ?_
          refine py_its (pc := 73) (pc1 := 74) (lv1 := [(4, .long q15), (3, .int (aI hp 11 a2.toNatClampNeg)), (0, .ref 0), (1, .int a1), (2, .int a2)]) (st1 := [.ref 0]) 1 (fun _ _ _ _ => rfl) ?_
          refine py_g1 48 (pc := 74) (len := 3) (cs := [0]) rfl rfl rfl List.mem_cons_self hS21 ?_
          refine py_its (pc := 77) (pc1 := 79) (lv1 := [(4, .long q15), (3, .int (aI hp 11 a2.toNatClampNeg)), (0, .ref 0), (1, .int a1), (2, .int a2)]) (st1 := [.long q15, .ref 48]) 1 (fun _ _ _ _ => rfl) ?_
          obtain ⟨q23, hq24, h⟩ := bd_e h
          obtain ⟨hC25, hS26⟩ := fx_Row_tellOne hS21 hq24
          refine py_vi (pc := 79) (mi := mi_Row_tellOne) (cs := [48]) (N := mm_Row_tellOne) rfl rfl rfl rfl List.mem_cons_self hS21 rfl (Nat.le_of_ble_eq_true rfl) (Nat.le_of_ble_eq_true rfl) rfl rfl hC25 ?_
          show px_Y mm_X_war 82 [(4, .long q15), (3, .int (aI hp 11 a2.toNatClampNeg)), (0, .ref 0), (1, .int a1), (2, .int a2)] [] q23 _ _
          refine py_its (pc := 82) (pc1 := 83) (lv1 := [(4, .long q15), (3, .int (aI hp 11 a2.toNatClampNeg)), (0, .ref 0), (1, .int a1), (2, .int a2)]) (st1 := [.ref 0]) 1 (fun _ _ _ _ => rfl) ?_
          refine py_g1 48 (pc := 83) (len := 3) (cs := [0]) rfl rfl rfl List.mem_cons_self hS26 ?_
          refine py_its (pc := 86) (pc1 := 87) (lv1 := [(4, .long q15), (3, .int (aI hp 11 a2.toNatClampNeg)), (0, .ref 0), (1, .int a1), (2, .int a2)]) (st1 := [.ref 0, .ref 48]) 1 (fun _ _ _ _ => rfl) ?_
          refine py_g1 28 (pc := 87) (len := 3) (cs := [0]) rfl rfl rfl List.mem_cons_self hS26 ?_
          refine py_its (pc := 90) (pc1 := 91) (lv1 := [(4, .long q15), (3, .int (aI hp 11 a2.toNatClampNeg)), (0, .ref 0), (1, .int a1), (2, .int a2)]) (st1 := [.int (aI hp 11 a2.toNatClampNeg), .ref 28, .ref 48]) 1 (fun _ _ _ _ => rfl) ?_
          obtain ⟨q27, hq28, h⟩ := bd_e h
          have hC29 := (fx_Walk_chanceOfLess hS26 hq28).1
          refine py_vi (pc := 91) (mi := mi_Walk_chanceOfLess) (cs := [28]) (N := mm_Walk_chanceOfLess) rfl rfl rfl rfl List.mem_cons_self hS26 rfl (Nat.le_of_ble_eq_true rfl) (Nat.le_of_ble_eq_true rfl) rfl rfl hC29 ?_
          show px_Y mm_X_war 94 [(4, .long q15), (3, .int (aI hp 11 a2.toNatClampNeg)), (0, .ref 0), (1, .int a1), (2, .int a2)] [.long q27, .ref 48] q23 _ _
          obtain ⟨q30, hq31, h⟩ := bd_e h
          obtain ⟨hC32, hS33⟩ := fx_Row_tell hS26 hq31
          refine py_vi (pc := 94) (mi := mi_Row_tell) (cs := [48]) (N := mm_Row_tell) rfl rfl rfl rfl List.mem_cons_self hS26 rfl (Nat.le_of_ble_eq_true rfl) (Nat.le_of_ble_eq_true rfl) rfl rfl hC32 ?_
          show px_Y mm_X_war 97 [(4, .long q15), (3, .int (aI hp 11 a2.toNatClampNeg)), (0, .ref 0), (1, .int a1), (2, .int a2)] [] q30 _ _
          refine py_its (pc := 97) (pc1 := 98) (lv1 := [(4, .long q15), (3, .int (aI hp 11 a2.toNatClampNeg)), (0, .ref 0), (1, .int a1), (2, .int a2)]) (st1 := [.int (Int32.ofInt 0)]) 1 (fun _ _ _ _ => rfl) ?_
          have h := Option.some.inj h
          subst h
          exact py_ir (pc := 98) (len := 1) (ty := .int) rfl rfl rfl hS33
        | false =>
          have h := cd_f hb22 h
          refine py_if (pc := 67) (len := 3) false rfl hb22 ?_
          refine py_its (pc := 70) (pc1 := 72) (lv1 := [(4, .long q15), (3, .int (aI hp 11 a2.toNatClampNeg)), (0, .ref 0), (1, .int a1), (2, .int a2)]) (st1 := [.int (Int8.ofInt (-3)).toInt32]) 1 (fun _ _ _ _ => rfl) ?_
          have h := Option.some.inj h
          subst h
          exact py_ir (pc := 72) (len := 1) (ty := .int) rfl rfl rfl hS21
      | false =>
        have h := cd_f hb14 h
        refine py_if (pc := 41) (len := 3) false rfl hb14 ?_
        refine py_its (pc := 44) (pc1 := 46) (lv1 := [(3, .int (aI hp 11 a2.toNatClampNeg)), (0, .ref 0), (1, .int a1), (2, .int a2)]) (st1 := [.int (Int8.ofInt (-3)).toInt32]) 1 (fun _ _ _ _ => rfl) ?_
        have h := Option.some.inj h
        subst h
        exact py_ir (pc := 46) (len := 1) (ty := .int) rfl rfl rfl hS13
    | false =>
      have h := cd_f hb8 h
      refine py_if (pc := 16) (len := 3) false rfl hb8 ?_
      refine py_its (pc := 19) (pc1 := 20) (lv1 := [(0, .ref 0), (1, .int a1), (2, .int a2)]) (st1 := [.int (Int32.ofInt (-1))]) 1 (fun _ _ _ _ => rfl) ?_
      have h := Option.some.inj h
      subst h
      exact py_ir (pc := 20) (len := 1) (ty := .int) rfl rfl rfl hS
/-! X_list -/
noncomputable def fn_X_list (a1 : Int32) (hp : px_H) : Option (Int32 × px_H) :=
  (fn_Town_hasAll a1 hp).bind fun q1 =>
  bif px_cmp .eq q1 0 then
    some ((Int32.ofInt (-1)), hp)
  else
    bif px_cmp .lt (gI hp 0 16) (Int8.ofInt 6).toInt32 then
      bif px_inR (gI hp 0 16) 6 then
      sb (uI hp 53 (gI hp 0 16).toNatClampNeg a1) fun h7 =>
      sb (wF h7 0 16 (.int ((gI h7 0 16) + (Int32.ofInt 1)))) fun h9 =>
      some ((gI h9 0 16), h9)
      else none
    else
      some ((Int32.ofInt (-1)), hp)
theorem fx_X_list {a1 : Int32} {hp : px_H} {res : Int32 × px_H} (hS : oS hp) (h : fn_X_list a1 hp = some res) : px_C nm_T nm_P mi_X_list [.ref 0, .int a1] hp (some (.int res.1)) res.2 ∧ oS res.2 := by
  unfold fn_X_list at h
  refine py_C (M := mm_X_list) rfl (Nat.le_of_ble_eq_true rfl) ?_
  show px_Y mm_X_list 0 [(0, .ref 0), (1, .int a1)] [] hp _ _
  refine py_its (pc := 0) (pc1 := 1) (lv1 := [(0, .ref 0), (1, .int a1)]) (st1 := [.ref 0]) 1 (fun _ _ _ _ => rfl) ?_
  refine py_g1 1 (pc := 1) (len := 3) (cs := [0]) rfl rfl rfl List.mem_cons_self hS ?_
  refine py_its (pc := 4) (pc1 := 5) (lv1 := [(0, .ref 0), (1, .int a1)]) (st1 := [.int a1, .ref 1]) 1 (fun _ _ _ _ => rfl) ?_
  obtain ⟨q1, hq2, h⟩ := bd_e h
  have hC3 := (fx_Town_hasAll hS hq2).1
  refine py_vi (pc := 5) (mi := mi_Town_hasAll) (cs := [1]) (N := mm_Town_hasAll) rfl rfl rfl rfl List.mem_cons_self hS rfl (Nat.le_of_ble_eq_true rfl) (Nat.le_of_ble_eq_true rfl) rfl rfl hC3 ?_
  show px_Y mm_X_list 8 [(0, .ref 0), (1, .int a1)] [.int q1] hp _ _
  cases hb4 : px_cmp .eq q1 0 with
  | true =>
    have h := cd_t hb4 h
    refine py_if (pc := 8) (len := 3) true rfl hb4 ?_
    refine py_its (pc := 20) (pc1 := 21) (lv1 := [(0, .ref 0), (1, .int a1)]) (st1 := [.int (Int32.ofInt (-1))]) 1 (fun _ _ _ _ => rfl) ?_
    have h := Option.some.inj h
    subst h
    exact py_ir (pc := 21) (len := 1) (ty := .int) rfl rfl rfl hS
  | false =>
    have h := cd_f hb4 h
    refine py_if (pc := 8) (len := 3) false rfl hb4 ?_
    refine py_its (pc := 11) (pc1 := 12) (lv1 := [(0, .ref 0), (1, .int a1)]) (st1 := [.ref 0]) 1 (fun _ _ _ _ => rfl) ?_
    refine py_gI (pc := 12) (len := 3) (cs := [0]) rfl rfl rfl List.mem_cons_self hS ?_
    refine py_its (pc := 15) (pc1 := 17) (lv1 := [(0, .ref 0), (1, .int a1)]) (st1 := [.int (Int8.ofInt 6).toInt32, .int (gI hp 0 16)]) 1 (fun _ _ _ _ => rfl) ?_
    cases hb5 : px_cmp .lt (gI hp 0 16) (Int8.ofInt 6).toInt32 with
    | true =>
      have h := cd_t hb5 h
      refine py_ic (pc := 17) (len := 3) true rfl hb5 ?_
      refine py_its (pc := 22) (pc1 := 23) (lv1 := [(0, .ref 0), (1, .int a1)]) (st1 := [.ref 0]) 1 (fun _ _ _ _ => rfl) ?_
      refine py_g1 53 (pc := 23) (len := 3) (cs := [0]) rfl rfl rfl List.mem_cons_self hS ?_
      refine py_its (pc := 26) (pc1 := 27) (lv1 := [(0, .ref 0), (1, .int a1)]) (st1 := [.ref 0, .ref 53]) 1 (fun _ _ _ _ => rfl) ?_
      refine py_gI (pc := 27) (len := 3) (cs := [0]) rfl rfl rfl List.mem_cons_self hS ?_
      refine py_its (pc := 30) (pc1 := 31) (lv1 := [(0, .ref 0), (1, .int a1)]) (st1 := [.int a1, .int (gI hp 0 16), .ref 53]) 1 (fun _ _ _ _ => rfl) ?_
      obtain ⟨hi6, h⟩ := cd_n h
      have h := sb_e h
      refine py_si (pc := 31) (len := 1) (cs := [53]) (t := 26) (n := 6) rfl rfl rfl hi6 List.mem_cons_self hS ?_
      have hS8 : oS (uI hp 53 (gI hp 0 16).toNatClampNeg a1) := oS_uI (cs := [53]) (t := 26) (n := 6) rfl List.mem_cons_self hS
      generalize (uI hp 53 (gI hp 0 16).toNatClampNeg a1) = h7 at h hS8 ⊢
      refine py_its (pc := 32) (pc1 := 34) (lv1 := [(0, .ref 0), (1, .int a1)]) (st1 := [.ref 0, .ref 0]) 2 (fun _ _ _ _ => rfl) ?_
      refine py_gI (pc := 34) (len := 3) (cs := [0]) rfl rfl rfl List.mem_cons_self hS8 ?_
      refine py_its (pc := 37) (pc1 := 39) (lv1 := [(0, .ref 0), (1, .int a1)]) (st1 := [.int ((gI h7 0 16) + (Int32.ofInt 1)), .ref 0]) 2 (fun _ _ _ _ => rfl) ?_
      have h := sb_e h
      refine py_pI (pc := 39) (len := 3) (cs := [0]) rfl rfl rfl List.mem_cons_self hS8 rfl rfl rfl rfl ?_
      have hS10 : oS (wF h7 0 16 (.int ((gI h7 0 16) + (Int32.ofInt 1)))) := oS_wI (cs := [0]) (ci := 8) rfl List.mem_cons_self hS8
      generalize (wF h7 0 16 (.int ((gI h7 0 16) + (Int32.ofInt 1)))) = h9 at h hS10 ⊢
      refine py_its (pc := 42) (pc1 := 43) (lv1 := [(0, .ref 0), (1, .int a1)]) (st1 := [.ref 0]) 1 (fun _ _ _ _ => rfl) ?_
      refine py_gI (pc := 43) (len := 3) (cs := [0]) rfl rfl rfl List.mem_cons_self hS10 ?_
      have h := Option.some.inj h
      subst h
      exact py_ir (pc := 46) (len := 1) (ty := .int) rfl rfl rfl hS10
    | false =>
      have h := cd_f hb5 h
      refine py_ic (pc := 17) (len := 3) false rfl hb5 ?_
      refine py_its (pc := 20) (pc1 := 21) (lv1 := [(0, .ref 0), (1, .int a1)]) (st1 := [.int (Int32.ofInt (-1))]) 1 (fun _ _ _ _ => rfl) ?_
      have h := Option.some.inj h
      subst h
      exact py_ir (pc := 21) (len := 1) (ty := .int) rfl rfl rfl hS
/-! X_wipe -/
noncomputable def fn_X_wipe  (hp : px_H) : Option (Int32 × px_H) :=
  sb (wF hp 0 16 (.int (Int32.ofInt 0))) fun h1 =>
  some ((gI hp 0 16), h1)
theorem fx_X_wipe  {hp : px_H} {res : Int32 × px_H} (hS : oS hp) (h : fn_X_wipe hp = some res) : px_C nm_T nm_P mi_X_wipe [.ref 0] hp (some (.int res.1)) res.2 ∧ oS res.2 := by
  unfold fn_X_wipe at h
  refine py_C (M := mm_X_wipe) rfl (Nat.le_of_ble_eq_true rfl) ?_
  show px_Y mm_X_wipe 0 [(0, .ref 0)] [] hp _ _
  refine py_its (pc := 0) (pc1 := 1) (lv1 := [(0, .ref 0)]) (st1 := [.ref 0]) 1 (fun _ _ _ _ => rfl) ?_
  refine py_gI (pc := 1) (len := 3) (cs := [0]) rfl rfl rfl List.mem_cons_self hS ?_
  refine py_its (pc := 4) (pc1 := 7) (lv1 := [(1, .int (gI hp 0 16)), (0, .ref 0)]) (st1 := [.int (Int32.ofInt 0), .ref 0]) 3 (fun _ _ _ _ => rfl) ?_
  have h := sb_e h
  refine py_pI (pc := 7) (len := 3) (cs := [0]) rfl rfl rfl List.mem_cons_self hS rfl rfl rfl rfl ?_
  have hS2 : oS (wF hp 0 16 (.int (Int32.ofInt 0))) := oS_wI (cs := [0]) (ci := 8) rfl List.mem_cons_self hS
  generalize (wF hp 0 16 (.int (Int32.ofInt 0))) = h1 at h hS2 ⊢
  refine py_its (pc := 10) (pc1 := 11) (lv1 := [(1, .int (gI hp 0 16)), (0, .ref 0)]) (st1 := [.int (gI hp 0 16)]) 1 (fun _ _ _ _ => rfl) ?_
  have h := Option.some.inj h
  subst h
  exact py_ir (pc := 11) (len := 1) (ty := .int) rfl rfl rfl hS2
/-! X_walkAsListed -/
noncomputable def fb_X_walkAsListed_L2  (rc : Int32 → px_H → Option (Int32 × px_H)) (v1 : Int32) (hp : px_H) : Option (Int32 × px_H) :=
  bif px_cmp .ge v1 (gI hp 0 16) then
    some ((Int32.ofInt 1), hp)
  else
    bif px_cmp .ge v1 (Int8.ofInt 6).toInt32 then
      some ((Int32.ofInt 1), hp)
    else
      (fn_Walk_pass v1 hp).bind fun q3 =>
      bif px_cmp .ne q3.1 0 then
        bif px_inR v1 6 then
        (fn_Walk_goOnWith (aI q3.2 53 v1.toNatClampNeg) q3.2).bind fun q9 =>
        rc (v1 + Int32.ofInt 1) q9
        else none
      else
        some ((Int32.ofInt 0), q3.2)
noncomputable def fn_X_walkAsListed_L2  : Nat → Int32 → px_H → Option (Int32 × px_H)
  | 0 => fun _ _ => none
  | n + 1 => fb_X_walkAsListed_L2  (fn_X_walkAsListed_L2  n)
theorem fl_X_walkAsListed_L2   : ∀ (n : Nat) (v1 : Int32) (hp : px_H) (lv : List (Nat × Value)) (res : Int32 × px_H), oS hp → lk lv [(0, .ref 0), (1, .int v1)] → fn_X_walkAsListed_L2  n v1 hp = some res → px_Y mm_X_walkAsListed 2 lv [] hp (some (.int res.1)) res.2 := by
  intro n
  induction n with
  | zero =>
    intro v1 hp lv res hS hk h
    cases h
  | succ n ih =>
    intro v1 hp lv res hS hk h
    have h : fb_X_walkAsListed_L2  (fn_X_walkAsListed_L2  n) v1 hp = some res := h
    unfold fb_X_walkAsListed_L2 at h
    refine py_iln (pc := 2) (len := 1) (j := 1) rfl hk rfl ?_
    refine py_aln (pc := 3) (len := 1) (j := 0) rfl hk rfl ?_
    refine py_gI (pc := 4) (len := 3) (cs := [0]) rfl rfl rfl List.mem_cons_self hS ?_
    cases hb1 : px_cmp .ge v1 (gI hp 0 16) with
    | true =>
      have h := cd_t hb1 h
      refine py_ic (pc := 7) (len := 3) true rfl hb1 ?_
      refine py_its (pc := 52) (pc1 := 53) (lv1 := lv) (st1 := [.int (Int32.ofInt 1)]) 1 (fun _ _ _ _ => rfl) ?_
      have h := Option.some.inj h
      subst h
      exact py_ir (pc := 53) (len := 1) (ty := .boolean) rfl rfl (by decide) hS
    | false =>
      have h := cd_f hb1 h
      refine py_ic (pc := 7) (len := 3) false rfl hb1 ?_
      refine py_iln (pc := 10) (len := 1) (j := 1) rfl hk rfl ?_
      refine py_its (pc := 11) (pc1 := 13) (lv1 := lv) (st1 := [.int (Int8.ofInt 6).toInt32, .int v1]) 1 (fun _ _ _ _ => rfl) ?_
      cases hb2 : px_cmp .ge v1 (Int8.ofInt 6).toInt32 with
      | true =>
        have h := cd_t hb2 h
        refine py_ic (pc := 13) (len := 3) true rfl hb2 ?_
        refine py_its (pc := 52) (pc1 := 53) (lv1 := lv) (st1 := [.int (Int32.ofInt 1)]) 1 (fun _ _ _ _ => rfl) ?_
        have h := Option.some.inj h
        subst h
        exact py_ir (pc := 53) (len := 1) (ty := .boolean) rfl rfl (by decide) hS
      | false =>
        have h := cd_f hb2 h
        refine py_ic (pc := 13) (len := 3) false rfl hb2 ?_
        refine py_aln (pc := 16) (len := 1) (j := 0) rfl hk rfl ?_
        refine py_g1 28 (pc := 17) (len := 3) (cs := [0]) rfl rfl rfl List.mem_cons_self hS ?_
        refine py_aln (pc := 20) (len := 1) (j := 0) rfl hk rfl ?_
        refine py_g1 21 (pc := 21) (len := 3) (cs := [0]) rfl rfl rfl List.mem_cons_self hS ?_
        refine py_iln (pc := 24) (len := 1) (j := 1) rfl hk rfl ?_
        obtain ⟨q3, hq4, h⟩ := bd_e h
        obtain ⟨hC5, hS6⟩ := fx_Walk_pass hS hq4
        refine py_vi (pc := 25) (mi := mi_Walk_pass) (cs := [28]) (N := mm_Walk_pass) rfl rfl rfl rfl List.mem_cons_self hS rfl (Nat.le_of_ble_eq_true rfl) (Nat.le_of_ble_eq_true rfl) rfl rfl hC5 ?_
        show px_Y mm_X_walkAsListed 28 lv [.int q3.1] q3.2 _ _
        cases hb7 : px_cmp .ne q3.1 0 with
        | true =>
          have h := cd_t hb7 h
          refine py_if (pc := 28) (len := 3) true rfl hb7 ?_
          refine py_aln (pc := 33) (len := 1) (j := 0) rfl hk rfl ?_
          refine py_g1 28 (pc := 34) (len := 3) (cs := [0]) rfl rfl rfl List.mem_cons_self hS6 ?_
          refine py_aln (pc := 37) (len := 1) (j := 0) rfl hk rfl ?_
          refine py_g1 53 (pc := 38) (len := 3) (cs := [0]) rfl rfl rfl List.mem_cons_self hS6 ?_
          refine py_iln (pc := 41) (len := 1) (j := 1) rfl hk rfl ?_
          obtain ⟨hi8, h⟩ := cd_n h
          refine py_ai (pc := 42) (len := 1) (cs := [53]) (t := 26) (n := 6) rfl rfl rfl hi8 List.mem_cons_self hS6 ?_
          obtain ⟨q9, hq10, h⟩ := bd_e h
          obtain ⟨hC11, hS12⟩ := fx_Walk_goOnWith hS6 hq10
          refine py_vi (pc := 43) (mi := mi_Walk_goOnWith) (cs := [28]) (N := mm_Walk_goOnWith) rfl rfl rfl rfl List.mem_cons_self hS6 rfl (Nat.le_of_ble_eq_true rfl) (Nat.le_of_ble_eq_true rfl) rfl rfl hC11 ?_
          show px_Y mm_X_walkAsListed 46 lv [] q9 _ _
          refine py_inc (pc := 46) (len := 3) (j := 1) (n := 1) rfl rfl hk rfl (fun lv13 hk14 => ?_)
          have hk14 : lk lv13 [(1, .int (v1 + Int32.ofInt 1)), (0, .ref 0)] := hk14
          refine py_its (pc := 49) (pc1 := 2) (lv1 := lv13) (st1 := []) 1 (fun _ _ _ _ => rfl) ?_
          exact ih (v1 + Int32.ofInt 1) q9 lv13 _ hS12 ⟨lk_find hk14 rfl, lk_find hk14 rfl, trivial⟩ h
        | false =>
          have h := cd_f hb7 h
          refine py_if (pc := 28) (len := 3) false rfl hb7 ?_
          refine py_its (pc := 31) (pc1 := 32) (lv1 := lv) (st1 := [.int (Int32.ofInt 0)]) 1 (fun _ _ _ _ => rfl) ?_
          have h := Option.some.inj h
          subst h
          exact py_ir (pc := 32) (len := 1) (ty := .boolean) rfl rfl (by decide) hS6
noncomputable def fn_X_walkAsListed  (hp : px_H) : Option (Int32 × px_H) :=
  fn_X_walkAsListed_L2 fu (Int32.ofInt 0) hp
theorem fx_X_walkAsListed  {hp : px_H} {res : Int32 × px_H} (hS : oS hp) (h : fn_X_walkAsListed hp = some res) : px_C nm_T nm_P mi_X_walkAsListed [.ref 0] hp (some (.int res.1)) res.2 ∧ oS res.2 := by
  unfold fn_X_walkAsListed at h
  refine py_C (M := mm_X_walkAsListed) rfl (Nat.le_of_ble_eq_true rfl) ?_
  show px_Y mm_X_walkAsListed 0 [(0, .ref 0)] [] hp _ _
  refine py_its (pc := 0) (pc1 := 2) (lv1 := [(1, .int (Int32.ofInt 0)), (0, .ref 0)]) (st1 := []) 2 (fun _ _ _ _ => rfl) ?_
  exact fl_X_walkAsListed_L2 fu (Int32.ofInt 0) hp [(1, .int (Int32.ofInt 0)), (0, .ref 0)] _ hS ⟨rfl, rfl, trivial⟩ h
/-! X_old -/
noncomputable def fb_X_old_L41 (v1 : Int32) (v2 : Int32) (rc : Int32 → Int32 → Int32 → Int32 → px_H → Option (Int32 × px_H)) (v3 : Int32) (v4 : Int32) (v5 : Int32) (v6 : Int32) (hp : px_H) : Option (Int32 × px_H) :=
  bif px_cmp .lt v6 0 then
    bif px_cmp .le v3 0 then
      (fn_Row_tellOne (Int64.ofNat 0) hp).bind fun q11 =>
      (fn_Row_tell v5.toInt64 q11).bind fun q15 =>
      some (v3, q15)
    else
      (fn_Row_tellOne v4.toInt64 hp).bind fun q19 =>
      (fn_Row_tell v5.toInt64 q19).bind fun q23 =>
      some (v3, q23)
  else
    (fn_X_packing v1 v2 v6 hp).bind fun q27 =>
    (fn_X_supposePacked v1 q27 hp).bind fun q32 =>
    (fn_X_walkAsListed q32).bind fun q36 =>
    bif px_cmp .ne q36.1 0 then
      bif px_cmp .le (gI q36.2 (gR q36.2 28 2) 3) 0 then
        rc v3 v4 v5 (v6 + Int32.ofInt (-1)) q36.2
      else
        rc (v3 + Int32.ofInt 1) (v4 &&& q27) (v5 ||| q27) (v6 + Int32.ofInt (-1)) q36.2
    else
      some ((Int8.ofInt (-3)).toInt32, q36.2)
noncomputable def fn_X_old_L41 (v1 : Int32) (v2 : Int32) : Nat → Int32 → Int32 → Int32 → Int32 → px_H → Option (Int32 × px_H)
  | 0 => fun _ _ _ _ _ => none
  | n + 1 => fb_X_old_L41 v1 v2 (fn_X_old_L41 v1 v2 n)
theorem fl_X_old_L41 {v1 : Int32} {v2 : Int32}  : ∀ (n : Nat) (v3 : Int32) (v4 : Int32) (v5 : Int32) (v6 : Int32) (hp : px_H) (lv : List (Nat × Value)) (res : Int32 × px_H), oS hp → lk lv [(0, .ref 0), (1, .int v1), (2, .int v2), (3, .int v3), (4, .int v4), (5, .int v5), (6, .int v6)] → fn_X_old_L41 v1 v2 n v3 v4 v5 v6 hp = some res → px_Y mm_X_old 41 lv [] hp (some (.int res.1)) res.2 := by
  intro n
  induction n with
  | zero =>
    intro v3 v4 v5 v6 hp lv res hS hk h
    cases h
  | succ n ih =>
    intro v3 v4 v5 v6 hp lv res hS hk h
    have h : fb_X_old_L41 v1 v2 (fn_X_old_L41 v1 v2 n) v3 v4 v5 v6 hp = some res := h
    unfold fb_X_old_L41 at h
    refine py_il (pc := 41) (len := 2) (j := 6) rfl hk rfl ?_
    cases hb9 : px_cmp .lt v6 0 with
    | true =>
      have h := cd_t hb9 h
      refine py_if (pc := 43) (len := 3) true rfl hb9 ?_
      refine py_aln (pc := 109) (len := 1) (j := 0) rfl hk rfl ?_
      refine py_g1 48 (pc := 110) (len := 3) (cs := [0]) rfl rfl rfl List.mem_cons_self hS ?_
      refine py_iln (pc := 113) (len := 1) (j := 3) rfl hk rfl ?_
      cases hb10 : px_cmp .le v3 0 with
      | true =>
        have h := cd_t hb10 h
        refine py_if (pc := 114) (len := 3) true rfl hb10 ?_
        refine py_its (pc := 123) (pc1 := 124) (lv1 := lv) (st1 := [.long (Int64.ofNat 0), .ref 48]) 1 (fun _ _ _ _ => rfl) ?_
        obtain ⟨q11, hq12, h⟩ := bd_e h
        obtain ⟨hC13, hS14⟩ := fx_Row_tellOne hS hq12
        refine py_vi (pc := 124) (mi := mi_Row_tellOne) (cs := [48]) (N := mm_Row_tellOne) rfl rfl rfl rfl List.mem_cons_self hS rfl (Nat.le_of_ble_eq_true rfl) (Nat.le_of_ble_eq_true rfl) rfl rfl hC13 ?_
        show px_Y mm_X_old 127 lv [] q11 _ _
        refine py_aln (pc := 127) (len := 1) (j := 0) rfl hk rfl ?_
        refine py_g1 48 (pc := 128) (len := 3) (cs := [0]) rfl rfl rfl List.mem_cons_self hS14 ?_
        refine py_il (pc := 131) (len := 2) (j := 5) rfl hk rfl ?_
        refine py_its (pc := 133) (pc1 := 134) (lv1 := lv) (st1 := [.long v5.toInt64, .ref 48]) 1 (fun _ _ _ _ => rfl) ?_
        obtain ⟨q15, hq16, h⟩ := bd_e h
        obtain ⟨hC17, hS18⟩ := fx_Row_tell hS14 hq16
        refine py_vi (pc := 134) (mi := mi_Row_tell) (cs := [48]) (N := mm_Row_tell) rfl rfl rfl rfl List.mem_cons_self hS14 rfl (Nat.le_of_ble_eq_true rfl) (Nat.le_of_ble_eq_true rfl) rfl rfl hC17 ?_
        show px_Y mm_X_old 137 lv [] q15 _ _
        refine py_iln (pc := 137) (len := 1) (j := 3) rfl hk rfl ?_
        have h := Option.some.inj h
        subst h
        exact py_ir (pc := 138) (len := 1) (ty := .int) rfl rfl rfl hS18
      | false =>
        have h := cd_f hb10 h
        refine py_if (pc := 114) (len := 3) false rfl hb10 ?_
        refine py_il (pc := 117) (len := 2) (j := 4) rfl hk rfl ?_
        refine py_its (pc := 119) (pc1 := 124) (lv1 := lv) (st1 := [.long v4.toInt64, .ref 48]) 2 (fun _ _ _ _ => rfl) ?_
        obtain ⟨q19, hq20, h⟩ := bd_e h
        obtain ⟨hC21, hS22⟩ := fx_Row_tellOne hS hq20
        refine py_vi (pc := 124) (mi := mi_Row_tellOne) (cs := [48]) (N := mm_Row_tellOne) rfl rfl rfl rfl List.mem_cons_self hS rfl (Nat.le_of_ble_eq_true rfl) (Nat.le_of_ble_eq_true rfl) rfl rfl hC21 ?_
        show px_Y mm_X_old 127 lv [] q19 _ _
        refine py_aln (pc := 127) (len := 1) (j := 0) rfl hk rfl ?_
        refine py_g1 48 (pc := 128) (len := 3) (cs := [0]) rfl rfl rfl List.mem_cons_self hS22 ?_
        refine py_il (pc := 131) (len := 2) (j := 5) rfl hk rfl ?_
        refine py_its (pc := 133) (pc1 := 134) (lv1 := lv) (st1 := [.long v5.toInt64, .ref 48]) 1 (fun _ _ _ _ => rfl) ?_
        obtain ⟨q23, hq24, h⟩ := bd_e h
        obtain ⟨hC25, hS26⟩ := fx_Row_tell hS22 hq24
        refine py_vi (pc := 134) (mi := mi_Row_tell) (cs := [48]) (N := mm_Row_tell) rfl rfl rfl rfl List.mem_cons_self hS22 rfl (Nat.le_of_ble_eq_true rfl) (Nat.le_of_ble_eq_true rfl) rfl rfl hC25 ?_
        show px_Y mm_X_old 137 lv [] q23 _ _
        refine py_iln (pc := 137) (len := 1) (j := 3) rfl hk rfl ?_
        have h := Option.some.inj h
        subst h
        exact py_ir (pc := 138) (len := 1) (ty := .int) rfl rfl rfl hS26
    | false =>
      have h := cd_f hb9 h
      refine py_if (pc := 43) (len := 3) false rfl hb9 ?_
      refine py_aln (pc := 46) (len := 1) (j := 0) rfl hk rfl ?_
      refine py_iln (pc := 47) (len := 1) (j := 1) rfl hk rfl ?_
      refine py_iln (pc := 48) (len := 1) (j := 2) rfl hk rfl ?_
      refine py_il (pc := 49) (len := 2) (j := 6) rfl hk rfl ?_
      obtain ⟨q27, hq28, h⟩ := bd_e h
      have hC29 := (fx_X_packing hS hq28).1
      refine py_vi (pc := 51) (mi := mi_X_packing) (cs := [0]) (N := mm_X_packing) rfl rfl rfl rfl List.mem_cons_self hS rfl (Nat.le_of_ble_eq_true rfl) (Nat.le_of_ble_eq_true rfl) rfl rfl hC29 ?_
      show px_Y mm_X_old 54 lv [.int q27] hp _ _
      refine py_sti (pc := 54) (len := 2) (j := 7) rfl rfl hk (fun lv30 hk31 => ?_)
      have hk31 : lk lv30 [(7, .int q27), (0, .ref 0), (1, .int v1), (2, .int v2), (3, .int v3), (4, .int v4), (5, .int v5), (6, .int v6)] := hk31
      refine py_aln (pc := 56) (len := 1) (j := 0) rfl hk31 rfl ?_
      refine py_iln (pc := 57) (len := 1) (j := 1) rfl hk31 rfl ?_
      refine py_il (pc := 58) (len := 2) (j := 7) rfl hk31 rfl ?_
      obtain ⟨q32, hq33, h⟩ := bd_e h
      obtain ⟨hC34, hS35⟩ := fx_X_supposePacked hS hq33
      refine py_vi (pc := 60) (mi := mi_X_supposePacked) (cs := [0]) (N := mm_X_supposePacked) rfl rfl rfl rfl List.mem_cons_self hS rfl (Nat.le_of_ble_eq_true rfl) (Nat.le_of_ble_eq_true rfl) rfl rfl hC34 ?_
      show px_Y mm_X_old 63 lv30 [] q32 _ _
      refine py_aln (pc := 63) (len := 1) (j := 0) rfl hk31 rfl ?_
      obtain ⟨q36, hq37, h⟩ := bd_e h
      obtain ⟨hC38, hS39⟩ := fx_X_walkAsListed hS35 hq37
      refine py_vi (pc := 64) (mi := mi_X_walkAsListed) (cs := [0]) (N := mm_X_walkAsListed) rfl rfl rfl rfl List.mem_cons_self hS35 rfl (Nat.le_of_ble_eq_true rfl) (Nat.le_of_ble_eq_true rfl) rfl rfl hC38 ?_
      show px_Y mm_X_old 67 lv30 [.int q36.1] q36.2 _ _
      cases hb40 : px_cmp .ne q36.1 0 with
      | true =>
        have h := cd_t hb40 h
        refine py_if (pc := 67) (len := 3) true rfl hb40 ?_
        refine py_aln (pc := 73) (len := 1) (j := 0) rfl hk31 rfl ?_
        refine py_g1 28 (pc := 74) (len := 3) (cs := [0]) rfl rfl rfl List.mem_cons_self hS39 ?_
        refine py_gR [29, 35, 41] (pc := 77) (len := 3) (cs := [28]) rfl rfl rfl List.mem_cons_self hS39 (fun hm41 => ?_)
        refine py_gI (pc := 80) (len := 3) (cs := [29, 35, 41]) rfl rfl rfl hm41 hS39 ?_
        cases hb42 : px_cmp .le (gI q36.2 (gR q36.2 28 2) 3) 0 with
        | true =>
          have h := cd_t hb42 h
          refine py_if (pc := 83) (len := 3) true rfl hb42 ?_
          refine py_inc (pc := 103) (len := 3) (j := 6) (n := (-1)) rfl rfl hk31 rfl (fun lv43 hk44 => ?_)
          have hk44 : lk lv43 [(6, .int (v6 + Int32.ofInt (-1))), (7, .int q27), (0, .ref 0), (1, .int v1), (2, .int v2), (3, .int v3), (4, .int v4), (5, .int v5)] := hk44
          refine py_its (pc := 106) (pc1 := 41) (lv1 := lv43) (st1 := []) 1 (fun _ _ _ _ => rfl) ?_
          exact ih v3 v4 v5 (v6 + Int32.ofInt (-1)) q36.2 lv43 _ hS39 ⟨lk_find hk44 rfl, lk_find hk44 rfl, lk_find hk44 rfl, lk_find hk44 rfl, lk_find hk44 rfl, lk_find hk44 rfl, lk_find hk44 rfl, trivial⟩ h
        | false =>
          have h := cd_f hb42 h
          refine py_if (pc := 83) (len := 3) false rfl hb42 ?_
          refine py_inc (pc := 86) (len := 3) (j := 3) (n := 1) rfl rfl hk31 rfl (fun lv45 hk46 => ?_)
          have hk46 : lk lv45 [(3, .int (v3 + Int32.ofInt 1)), (7, .int q27), (0, .ref 0), (1, .int v1), (2, .int v2), (4, .int v4), (5, .int v5), (6, .int v6)] := hk46
          refine py_il (pc := 89) (len := 2) (j := 4) rfl hk46 rfl ?_
          refine py_il (pc := 91) (len := 2) (j := 7) rfl hk46 rfl ?_
          refine py_its (pc := 93) (pc1 := 94) (lv1 := lv45) (st1 := [.int (v4 &&& q27)]) 1 (fun _ _ _ _ => rfl) ?_
          refine py_sti (pc := 94) (len := 2) (j := 4) rfl rfl hk46 (fun lv47 hk48 => ?_)
          have hk48 : lk lv47 [(4, .int (v4 &&& q27)), (3, .int (v3 + Int32.ofInt 1)), (7, .int q27), (0, .ref 0), (1, .int v1), (2, .int v2), (5, .int v5), (6, .int v6)] := hk48
          refine py_il (pc := 96) (len := 2) (j := 5) rfl hk48 rfl ?_
          refine py_il (pc := 98) (len := 2) (j := 7) rfl hk48 rfl ?_
          refine py_its (pc := 100) (pc1 := 101) (lv1 := lv47) (st1 := [.int (v5 ||| q27)]) 1 (fun _ _ _ _ => rfl) ?_
          refine py_sti (pc := 101) (len := 2) (j := 5) rfl rfl hk48 (fun lv49 hk50 => ?_)
          have hk50 : lk lv49 [(5, .int (v5 ||| q27)), (4, .int (v4 &&& q27)), (3, .int (v3 + Int32.ofInt 1)), (7, .int q27), (0, .ref 0), (1, .int v1), (2, .int v2), (6, .int v6)] := hk50
          refine py_inc (pc := 103) (len := 3) (j := 6) (n := (-1)) rfl rfl hk50 rfl (fun lv51 hk52 => ?_)
          have hk52 : lk lv51 [(6, .int (v6 + Int32.ofInt (-1))), (5, .int (v5 ||| q27)), (4, .int (v4 &&& q27)), (3, .int (v3 + Int32.ofInt 1)), (7, .int q27), (0, .ref 0), (1, .int v1), (2, .int v2)] := hk52
          refine py_its (pc := 106) (pc1 := 41) (lv1 := lv51) (st1 := []) 1 (fun _ _ _ _ => rfl) ?_
          exact ih (v3 + Int32.ofInt 1) (v4 &&& q27) (v5 ||| q27) (v6 + Int32.ofInt (-1)) q36.2 lv51 _ hS39 ⟨lk_find hk52 rfl, lk_find hk52 rfl, lk_find hk52 rfl, lk_find hk52 rfl, lk_find hk52 rfl, lk_find hk52 rfl, lk_find hk52 rfl, trivial⟩ h
      | false =>
        have h := cd_f hb40 h
        refine py_if (pc := 67) (len := 3) false rfl hb40 ?_
        refine py_its (pc := 70) (pc1 := 72) (lv1 := lv30) (st1 := [.int (Int8.ofInt (-3)).toInt32]) 1 (fun _ _ _ _ => rfl) ?_
        have h := Option.some.inj h
        subst h
        exact py_ir (pc := 72) (len := 1) (ty := .int) rfl rfl rfl hS39
noncomputable def fn_X_old (a1 : Int32) (a2 : Int32) (hp : px_H) : Option (Int32 × px_H) :=
  (fn_X_canPack a1 a2 hp).bind fun q1 =>
  bif px_cmp .eq q1 0 then
    some ((Int32.ofInt (-1)), hp)
  else
    bif px_cmp .le (gI hp 0 16) (gI hp 1 8) then
      (fn_X_fullestWay a2 hp).bind fun q6 =>
      fn_X_old_L41 a1 a2 fu (Int32.ofInt 0) (Int16.ofInt 1023).toInt32 (Int32.ofInt 0) q6 hp
    else
      some ((Int32.ofInt (-1)), hp)
theorem fx_X_old {a1 : Int32} {a2 : Int32} {hp : px_H} {res : Int32 × px_H} (hS : oS hp) (h : fn_X_old a1 a2 hp = some res) : px_C nm_T nm_P mi_X_old [.ref 0, .int a1, .int a2] hp (some (.int res.1)) res.2 ∧ oS res.2 := by
  unfold fn_X_old at h
  refine py_C (M := mm_X_old) rfl (Nat.le_of_ble_eq_true rfl) ?_
  show px_Y mm_X_old 0 [(0, .ref 0), (1, .int a1), (2, .int a2)] [] hp _ _
  refine py_its (pc := 0) (pc1 := 3) (lv1 := [(0, .ref 0), (1, .int a1), (2, .int a2)]) (st1 := [.int a2, .int a1, .ref 0]) 3 (fun _ _ _ _ => rfl) ?_
  obtain ⟨q1, hq2, h⟩ := bd_e h
  have hC3 := (fx_X_canPack hS hq2).1
  refine py_vi (pc := 3) (mi := mi_X_canPack) (cs := [0]) (N := mm_X_canPack) rfl rfl rfl rfl List.mem_cons_self hS rfl (Nat.le_of_ble_eq_true rfl) (Nat.le_of_ble_eq_true rfl) rfl rfl hC3 ?_
  show px_Y mm_X_old 6 [(0, .ref 0), (1, .int a1), (2, .int a2)] [.int q1] hp _ _
  cases hb4 : px_cmp .eq q1 0 with
  | true =>
    have h := cd_t hb4 h
    refine py_if (pc := 6) (len := 3) true rfl hb4 ?_
    refine py_its (pc := 23) (pc1 := 24) (lv1 := [(0, .ref 0), (1, .int a1), (2, .int a2)]) (st1 := [.int (Int32.ofInt (-1))]) 1 (fun _ _ _ _ => rfl) ?_
    have h := Option.some.inj h
    subst h
    exact py_ir (pc := 24) (len := 1) (ty := .int) rfl rfl rfl hS
  | false =>
    have h := cd_f hb4 h
    refine py_if (pc := 6) (len := 3) false rfl hb4 ?_
    refine py_its (pc := 9) (pc1 := 10) (lv1 := [(0, .ref 0), (1, .int a1), (2, .int a2)]) (st1 := [.ref 0]) 1 (fun _ _ _ _ => rfl) ?_
    refine py_gI (pc := 10) (len := 3) (cs := [0]) rfl rfl rfl List.mem_cons_self hS ?_
    refine py_its (pc := 13) (pc1 := 14) (lv1 := [(0, .ref 0), (1, .int a1), (2, .int a2)]) (st1 := [.ref 0, .int (gI hp 0 16)]) 1 (fun _ _ _ _ => rfl) ?_
    refine py_g1 1 (pc := 14) (len := 3) (cs := [0]) rfl rfl rfl List.mem_cons_self hS ?_
    refine py_gI (pc := 17) (len := 3) (cs := [1]) rfl rfl rfl List.mem_cons_self hS ?_
    cases hb5 : px_cmp .le (gI hp 0 16) (gI hp 1 8) with
    | true =>
      have h := cd_t hb5 h
      refine py_ic (pc := 20) (len := 3) true rfl hb5 ?_
      refine py_its (pc := 25) (pc1 := 36) (lv1 := [(5, .int (Int32.ofInt 0)), (4, .int (Int16.ofInt 1023).toInt32), (3, .int (Int32.ofInt 0)), (0, .ref 0), (1, .int a1), (2, .int a2)]) (st1 := [.int a2]) 7 (fun _ _ _ _ => rfl) ?_
      obtain ⟨q6, hq7, h⟩ := bd_e h
      have hC8 := (fx_X_fullestWay hS hq7).1
      refine py_st (pc := 36) (mi := mi_X_fullestWay) (N := mm_X_fullestWay) rfl rfl rfl (Nat.le_of_ble_eq_true rfl) (Nat.le_of_ble_eq_true rfl) rfl rfl hC8 ?_
      show px_Y mm_X_old 39 [(5, .int (Int32.ofInt 0)), (4, .int (Int16.ofInt 1023).toInt32), (3, .int (Int32.ofInt 0)), (0, .ref 0), (1, .int a1), (2, .int a2)] [.int q6] hp _ _
      refine py_its (pc := 39) (pc1 := 41) (lv1 := [(6, .int q6), (5, .int (Int32.ofInt 0)), (4, .int (Int16.ofInt 1023).toInt32), (3, .int (Int32.ofInt 0)), (0, .ref 0), (1, .int a1), (2, .int a2)]) (st1 := []) 1 (fun _ _ _ _ => rfl) ?_
      exact fl_X_old_L41 fu (Int32.ofInt 0) (Int16.ofInt 1023).toInt32 (Int32.ofInt 0) q6 hp [(6, .int q6), (5, .int (Int32.ofInt 0)), (4, .int (Int16.ofInt 1023).toInt32), (3, .int (Int32.ofInt 0)), (0, .ref 0), (1, .int a1), (2, .int a2)] _ hS ⟨rfl, rfl, rfl, rfl, rfl, rfl, rfl, trivial⟩ h
    | false =>
      have h := cd_f hb5 h
      refine py_ic (pc := 20) (len := 3) false rfl hb5 ?_
      refine py_its (pc := 23) (pc1 := 24) (lv1 := [(0, .ref 0), (1, .int a1), (2, .int a2)]) (st1 := [.int (Int32.ofInt (-1))]) 1 (fun _ _ _ _ => rfl) ?_
      have h := Option.some.inj h
      subst h
      exact py_ir (pc := 24) (len := 1) (ty := .int) rfl rfl rfl hS
/-! X_seldom -/
noncomputable def fn_X_seldom  (hp : px_H) : Option (Int32 × px_H) :=
  bif px_cmp .le (gI hp 0 16) (gI hp 1 8) then
    (fn_X_supposePacked (Int32.ofInt 0) (aI hp 7 (Int32.ofInt 0).toNatClampNeg) hp).bind fun q2 =>
    (fn_X_walkAsListed q2).bind fun q6 =>
    bif px_cmp .ne q6.1 0 then
      (fn_Walk_chanceOfAll q6.2).bind fun q11 =>
      (fn_Row_tellOne q11 q6.2).bind fun q14 =>
      some ((Int32.ofInt 0), q14)
    else
      some ((Int8.ofInt (-3)).toInt32, q6.2)
  else
    some ((Int32.ofInt (-1)), hp)
theorem fx_X_seldom  {hp : px_H} {res : Int32 × px_H} (hS : oS hp) (h : fn_X_seldom hp = some res) : px_C nm_T nm_P mi_X_seldom [.ref 0] hp (some (.int res.1)) res.2 ∧ oS res.2 := by
  unfold fn_X_seldom at h
  refine py_C (M := mm_X_seldom) rfl (Nat.le_of_ble_eq_true rfl) ?_
  show px_Y mm_X_seldom 0 [(0, .ref 0)] [] hp _ _
  refine py_its (pc := 0) (pc1 := 1) (lv1 := [(0, .ref 0)]) (st1 := [.ref 0]) 1 (fun _ _ _ _ => rfl) ?_
  refine py_gI (pc := 1) (len := 3) (cs := [0]) rfl rfl rfl List.mem_cons_self hS ?_
  refine py_its (pc := 4) (pc1 := 5) (lv1 := [(0, .ref 0)]) (st1 := [.ref 0, .int (gI hp 0 16)]) 1 (fun _ _ _ _ => rfl) ?_
  refine py_g1 1 (pc := 5) (len := 3) (cs := [0]) rfl rfl rfl List.mem_cons_self hS ?_
  refine py_gI (pc := 8) (len := 3) (cs := [1]) rfl rfl rfl List.mem_cons_self hS ?_
  cases hb1 : px_cmp .le (gI hp 0 16) (gI hp 1 8) with
  | true =>
    have h := cd_t hb1 h
    refine py_ic (pc := 11) (len := 3) true rfl hb1 ?_
    refine py_its (pc := 16) (pc1 := 19) (lv1 := [(0, .ref 0)]) (st1 := [.ref 0, .int (Int32.ofInt 0), .ref 0]) 3 (fun _ _ _ _ => rfl) ?_
    refine py_g1 1 (pc := 19) (len := 3) (cs := [0]) rfl rfl rfl List.mem_cons_self hS ?_
    refine py_g1 7 (pc := 22) (len := 3) (cs := [1]) rfl rfl rfl List.mem_cons_self hS ?_
    refine py_its (pc := 25) (pc1 := 26) (lv1 := [(0, .ref 0)]) (st1 := [.int (Int32.ofInt 0), .ref 7, .int (Int32.ofInt 0), .ref 0]) 1 (fun _ _ _ _ => rfl) ?_
    refine py_ai (pc := 26) (len := 1) (cs := [7]) (t := 17) (n := 2) rfl rfl rfl rfl List.mem_cons_self hS ?_
    obtain ⟨q2, hq3, h⟩ := bd_e h
    obtain ⟨hC4, hS5⟩ := fx_X_supposePacked hS hq3
    refine py_vi (pc := 27) (mi := mi_X_supposePacked) (cs := [0]) (N := mm_X_supposePacked) rfl rfl rfl rfl List.mem_cons_self hS rfl (Nat.le_of_ble_eq_true rfl) (Nat.le_of_ble_eq_true rfl) rfl rfl hC4 ?_
    show px_Y mm_X_seldom 30 [(0, .ref 0)] [] q2 _ _
    refine py_its (pc := 30) (pc1 := 31) (lv1 := [(0, .ref 0)]) (st1 := [.ref 0]) 1 (fun _ _ _ _ => rfl) ?_
    obtain ⟨q6, hq7, h⟩ := bd_e h
    obtain ⟨hC8, hS9⟩ := fx_X_walkAsListed hS5 hq7
    refine py_vi (pc := 31) (mi := mi_X_walkAsListed) (cs := [0]) (N := mm_X_walkAsListed) rfl rfl rfl rfl List.mem_cons_self hS5 rfl (Nat.le_of_ble_eq_true rfl) (Nat.le_of_ble_eq_true rfl) rfl rfl hC8 ?_
    show px_Y mm_X_seldom 34 [(0, .ref 0)] [.int q6.1] q6.2 _ _
    cases hb10 : px_cmp .ne q6.1 0 with
    | true =>
      have h := cd_t hb10 h
      refine py_if (pc := 34) (len := 3) true rfl hb10 ?_
      refine py_its (pc := 40) (pc1 := 41) (lv1 := [(0, .ref 0)]) (st1 := [.ref 0]) 1 (fun _ _ _ _ => rfl) ?_
      refine py_g1 48 (pc := 41) (len := 3) (cs := [0]) rfl rfl rfl List.mem_cons_self hS9 ?_
      refine py_its (pc := 44) (pc1 := 45) (lv1 := [(0, .ref 0)]) (st1 := [.ref 0, .ref 48]) 1 (fun _ _ _ _ => rfl) ?_
      refine py_g1 28 (pc := 45) (len := 3) (cs := [0]) rfl rfl rfl List.mem_cons_self hS9 ?_
      obtain ⟨q11, hq12, h⟩ := bd_e h
      have hC13 := (fx_Walk_chanceOfAll hS9 hq12).1
      refine py_vi (pc := 48) (mi := mi_Walk_chanceOfAll) (cs := [28]) (N := mm_Walk_chanceOfAll) rfl rfl rfl rfl List.mem_cons_self hS9 rfl (Nat.le_of_ble_eq_true rfl) (Nat.le_of_ble_eq_true rfl) rfl rfl hC13 ?_
      show px_Y mm_X_seldom 51 [(0, .ref 0)] [.long q11, .ref 48] q6.2 _ _
      obtain ⟨q14, hq15, h⟩ := bd_e h
      obtain ⟨hC16, hS17⟩ := fx_Row_tellOne hS9 hq15
      refine py_vi (pc := 51) (mi := mi_Row_tellOne) (cs := [48]) (N := mm_Row_tellOne) rfl rfl rfl rfl List.mem_cons_self hS9 rfl (Nat.le_of_ble_eq_true rfl) (Nat.le_of_ble_eq_true rfl) rfl rfl hC16 ?_
      show px_Y mm_X_seldom 54 [(0, .ref 0)] [] q14 _ _
      refine py_its (pc := 54) (pc1 := 55) (lv1 := [(0, .ref 0)]) (st1 := [.int (Int32.ofInt 0)]) 1 (fun _ _ _ _ => rfl) ?_
      have h := Option.some.inj h
      subst h
      exact py_ir (pc := 55) (len := 1) (ty := .int) rfl rfl rfl hS17
    | false =>
      have h := cd_f hb10 h
      refine py_if (pc := 34) (len := 3) false rfl hb10 ?_
      refine py_its (pc := 37) (pc1 := 39) (lv1 := [(0, .ref 0)]) (st1 := [.int (Int8.ofInt (-3)).toInt32]) 1 (fun _ _ _ _ => rfl) ?_
      have h := Option.some.inj h
      subst h
      exact py_ir (pc := 39) (len := 1) (ty := .int) rfl rfl rfl hS9
  | false =>
    have h := cd_f hb1 h
    refine py_ic (pc := 11) (len := 3) false rfl hb1 ?_
    refine py_its (pc := 14) (pc1 := 15) (lv1 := [(0, .ref 0)]) (st1 := [.int (Int32.ofInt (-1))]) 1 (fun _ _ _ _ => rfl) ?_
    have h := Option.some.inj h
    subst h
    exact py_ir (pc := 15) (len := 1) (ty := .int) rfl rfl rfl hS
/-! X_count -/
noncomputable def fn_X_count (a1 : Int32) (hp : px_H) : Option (Int32) :=
  bif px_cmp .eq a1 (Int32.ofInt 0) then
    some (gI hp 1 0)
  else
    bif px_cmp .eq a1 (Int32.ofInt 1) then
      some (gI hp 1 8)
    else
      bif px_cmp .eq a1 (Int32.ofInt 2) then
        some (gI hp 19 2)
      else
        bif px_cmp .eq a1 (Int32.ofInt 3) then
          some (gI hp 14 3)
        else
          bif px_cmp .eq a1 (Int32.ofInt 4) then
            some (gI hp 12 1)
          else
            bif px_cmp .eq a1 (Int32.ofInt 5) then
              some (gI hp 48 1)
            else
              bif px_cmp .eq a1 (Int32.ofInt 6) then
                some (gI hp 0 16)
              else
                bif px_cmp .eq a1 (Int32.ofInt 7) then
                  some (aI hp 7 (Int32.ofInt 0).toNatClampNeg)
                else
                  bif px_cmp .eq a1 (Int32.ofInt 8) then
                    some (aI hp 7 (Int32.ofInt 1).toNatClampNeg)
                  else
                    bif px_cmp .eq a1 (Int32.ofInt 9) then
                      some (gI hp 0 4)
                    else
                      some (Int32.ofInt (-1))
theorem fx_X_count {a1 : Int32} {hp : px_H} {res : Int32} (hS : oS hp) (h : fn_X_count a1 hp = some res) : px_C nm_T nm_P mi_X_count [.ref 0, .int a1] hp (some (.int res)) hp ∧ oS hp := by
  unfold fn_X_count at h
  refine py_C (M := mm_X_count) rfl (Nat.le_of_ble_eq_true rfl) ?_
  show px_Y mm_X_count 0 [(0, .ref 0), (1, .int a1)] [] hp _ _
  refine py_its (pc := 0) (pc1 := 1) (lv1 := [(0, .ref 0), (1, .int a1)]) (st1 := [.int a1]) 1 (fun _ _ _ _ => rfl) ?_
  cases hb1 : px_cmp .eq a1 (Int32.ofInt 0) with
  | true =>
    have h := cd_t hb1 h
    refine py_tsw (pc := 1) (len := 55) (off := 55) rfl (by rw [sx_eq hb1]; rfl) ?_
    refine py_its (pc := 56) (pc1 := 57) (lv1 := [(0, .ref 0), (1, .int a1)]) (st1 := [.ref 0]) 1 (fun _ _ _ _ => rfl) ?_
    refine py_g1 1 (pc := 57) (len := 3) (cs := [0]) rfl rfl rfl List.mem_cons_self hS ?_
    refine py_gI (pc := 60) (len := 3) (cs := [1]) rfl rfl rfl List.mem_cons_self hS ?_
    have h := Option.some.inj h
    subst h
    exact py_ir (pc := 63) (len := 1) (ty := .int) rfl rfl rfl hS
  | false =>
    have h := cd_f hb1 h
    cases hb2 : px_cmp .eq a1 (Int32.ofInt 1) with
    | true =>
      have h := cd_t hb2 h
      refine py_tsw (pc := 1) (len := 55) (off := 63) rfl (by rw [sx_eq hb2]; rfl) ?_
      refine py_its (pc := 64) (pc1 := 65) (lv1 := [(0, .ref 0), (1, .int a1)]) (st1 := [.ref 0]) 1 (fun _ _ _ _ => rfl) ?_
      refine py_g1 1 (pc := 65) (len := 3) (cs := [0]) rfl rfl rfl List.mem_cons_self hS ?_
      refine py_gI (pc := 68) (len := 3) (cs := [1]) rfl rfl rfl List.mem_cons_self hS ?_
      have h := Option.some.inj h
      subst h
      exact py_ir (pc := 71) (len := 1) (ty := .int) rfl rfl rfl hS
    | false =>
      have h := cd_f hb2 h
      cases hb3 : px_cmp .eq a1 (Int32.ofInt 2) with
      | true =>
        have h := cd_t hb3 h
        refine py_tsw (pc := 1) (len := 55) (off := 71) rfl (by rw [sx_eq hb3]; rfl) ?_
        refine py_its (pc := 72) (pc1 := 73) (lv1 := [(0, .ref 0), (1, .int a1)]) (st1 := [.ref 0]) 1 (fun _ _ _ _ => rfl) ?_
        refine py_g1 19 (pc := 73) (len := 3) (cs := [0]) rfl rfl rfl List.mem_cons_self hS ?_
        refine py_gI (pc := 76) (len := 3) (cs := [19]) rfl rfl rfl List.mem_cons_self hS ?_
        have h := Option.some.inj h
        subst h
        exact py_ir (pc := 79) (len := 1) (ty := .int) rfl rfl rfl hS
      | false =>
        have h := cd_f hb3 h
        cases hb4 : px_cmp .eq a1 (Int32.ofInt 3) with
        | true =>
          have h := cd_t hb4 h
          refine py_tsw (pc := 1) (len := 55) (off := 79) rfl (by rw [sx_eq hb4]; rfl) ?_
          refine py_its (pc := 80) (pc1 := 81) (lv1 := [(0, .ref 0), (1, .int a1)]) (st1 := [.ref 0]) 1 (fun _ _ _ _ => rfl) ?_
          refine py_g1 14 (pc := 81) (len := 3) (cs := [0]) rfl rfl rfl List.mem_cons_self hS ?_
          refine py_gI (pc := 84) (len := 3) (cs := [14]) rfl rfl rfl List.mem_cons_self hS ?_
          have h := Option.some.inj h
          subst h
          exact py_ir (pc := 87) (len := 1) (ty := .int) rfl rfl rfl hS
        | false =>
          have h := cd_f hb4 h
          cases hb5 : px_cmp .eq a1 (Int32.ofInt 4) with
          | true =>
            have h := cd_t hb5 h
            refine py_tsw (pc := 1) (len := 55) (off := 87) rfl (by rw [sx_eq hb5]; rfl) ?_
            refine py_its (pc := 88) (pc1 := 89) (lv1 := [(0, .ref 0), (1, .int a1)]) (st1 := [.ref 0]) 1 (fun _ _ _ _ => rfl) ?_
            refine py_g1 12 (pc := 89) (len := 3) (cs := [0]) rfl rfl rfl List.mem_cons_self hS ?_
            refine py_gI (pc := 92) (len := 3) (cs := [12]) rfl rfl rfl List.mem_cons_self hS ?_
            have h := Option.some.inj h
            subst h
            exact py_ir (pc := 95) (len := 1) (ty := .int) rfl rfl rfl hS
          | false =>
            have h := cd_f hb5 h
            cases hb6 : px_cmp .eq a1 (Int32.ofInt 5) with
            | true =>
              have h := cd_t hb6 h
              refine py_tsw (pc := 1) (len := 55) (off := 95) rfl (by rw [sx_eq hb6]; rfl) ?_
              refine py_its (pc := 96) (pc1 := 97) (lv1 := [(0, .ref 0), (1, .int a1)]) (st1 := [.ref 0]) 1 (fun _ _ _ _ => rfl) ?_
              refine py_g1 48 (pc := 97) (len := 3) (cs := [0]) rfl rfl rfl List.mem_cons_self hS ?_
              refine py_gI (pc := 100) (len := 3) (cs := [48]) rfl rfl rfl List.mem_cons_self hS ?_
              have h := Option.some.inj h
              subst h
              exact py_ir (pc := 103) (len := 1) (ty := .int) rfl rfl rfl hS
            | false =>
              have h := cd_f hb6 h
              cases hb7 : px_cmp .eq a1 (Int32.ofInt 6) with
              | true =>
                have h := cd_t hb7 h
                refine py_tsw (pc := 1) (len := 55) (off := 103) rfl (by rw [sx_eq hb7]; rfl) ?_
                refine py_its (pc := 104) (pc1 := 105) (lv1 := [(0, .ref 0), (1, .int a1)]) (st1 := [.ref 0]) 1 (fun _ _ _ _ => rfl) ?_
                refine py_gI (pc := 105) (len := 3) (cs := [0]) rfl rfl rfl List.mem_cons_self hS ?_
                have h := Option.some.inj h
                subst h
                exact py_ir (pc := 108) (len := 1) (ty := .int) rfl rfl rfl hS
              | false =>
                have h := cd_f hb7 h
                cases hb8 : px_cmp .eq a1 (Int32.ofInt 7) with
                | true =>
                  have h := cd_t hb8 h
                  refine py_tsw (pc := 1) (len := 55) (off := 108) rfl (by rw [sx_eq hb8]; rfl) ?_
                  refine py_its (pc := 109) (pc1 := 110) (lv1 := [(0, .ref 0), (1, .int a1)]) (st1 := [.ref 0]) 1 (fun _ _ _ _ => rfl) ?_
                  refine py_g1 1 (pc := 110) (len := 3) (cs := [0]) rfl rfl rfl List.mem_cons_self hS ?_
                  refine py_g1 7 (pc := 113) (len := 3) (cs := [1]) rfl rfl rfl List.mem_cons_self hS ?_
                  refine py_its (pc := 116) (pc1 := 117) (lv1 := [(0, .ref 0), (1, .int a1)]) (st1 := [.int (Int32.ofInt 0), .ref 7]) 1 (fun _ _ _ _ => rfl) ?_
                  refine py_ai (pc := 117) (len := 1) (cs := [7]) (t := 17) (n := 2) rfl rfl rfl rfl List.mem_cons_self hS ?_
                  have h := Option.some.inj h
                  subst h
                  exact py_ir (pc := 118) (len := 1) (ty := .int) rfl rfl rfl hS
                | false =>
                  have h := cd_f hb8 h
                  cases hb9 : px_cmp .eq a1 (Int32.ofInt 8) with
                  | true =>
                    have h := cd_t hb9 h
                    refine py_tsw (pc := 1) (len := 55) (off := 118) rfl (by rw [sx_eq hb9]; rfl) ?_
                    refine py_its (pc := 119) (pc1 := 120) (lv1 := [(0, .ref 0), (1, .int a1)]) (st1 := [.ref 0]) 1 (fun _ _ _ _ => rfl) ?_
                    refine py_g1 1 (pc := 120) (len := 3) (cs := [0]) rfl rfl rfl List.mem_cons_self hS ?_
                    refine py_g1 7 (pc := 123) (len := 3) (cs := [1]) rfl rfl rfl List.mem_cons_self hS ?_
                    refine py_its (pc := 126) (pc1 := 127) (lv1 := [(0, .ref 0), (1, .int a1)]) (st1 := [.int (Int32.ofInt 1), .ref 7]) 1 (fun _ _ _ _ => rfl) ?_
                    refine py_ai (pc := 127) (len := 1) (cs := [7]) (t := 17) (n := 2) rfl rfl rfl rfl List.mem_cons_self hS ?_
                    have h := Option.some.inj h
                    subst h
                    exact py_ir (pc := 128) (len := 1) (ty := .int) rfl rfl rfl hS
                  | false =>
                    have h := cd_f hb9 h
                    cases hb10 : px_cmp .eq a1 (Int32.ofInt 9) with
                    | true =>
                      have h := cd_t hb10 h
                      refine py_tsw (pc := 1) (len := 55) (off := 128) rfl (by rw [sx_eq hb10]; rfl) ?_
                      refine py_its (pc := 129) (pc1 := 130) (lv1 := [(0, .ref 0), (1, .int a1)]) (st1 := [.ref 0]) 1 (fun _ _ _ _ => rfl) ?_
                      refine py_gI (pc := 130) (len := 3) (cs := [0]) rfl rfl rfl List.mem_cons_self hS ?_
                      have h := Option.some.inj h
                      subst h
                      exact py_ir (pc := 133) (len := 1) (ty := .int) rfl rfl rfl hS
                    | false =>
                      have h := cd_f hb10 h
                      refine py_tsw (pc := 1) (len := 55) (off := 133) rfl (sx_tod (lo := 0) (hi := 9) (fun k h1 h2 => by rcases (show k = 0 ∨ k = 1 ∨ k = 2 ∨ k = 3 ∨ k = 4 ∨ k = 5 ∨ k = 6 ∨ k = 7 ∨ k = 8 ∨ k = 9 from by omega) with rfl | rfl | rfl | rfl | rfl | rfl | rfl | rfl | rfl | rfl <;> assumption)) ?_
                      refine py_its (pc := 134) (pc1 := 135) (lv1 := [(0, .ref 0), (1, .int a1)]) (st1 := [.int (Int32.ofInt (-1))]) 1 (fun _ _ _ _ => rfl) ?_
                      have h := Option.some.inj h
                      subst h
                      exact py_ir (pc := 135) (len := 1) (ty := .int) rfl rfl rfl hS
/-! M_isLeft -/
noncomputable def fn_M_isLeft (a1 : Int32) (hp : px_H) : Option (Int32) :=
  bif px_zr .boolean (sx_in a1.toInt64 (gI hp 69 31).toInt64 ((gI hp 69 11) - (Int32.ofInt 1)).toInt64) then
  some (sx_in a1.toInt64 (gI hp 69 31).toInt64 ((gI hp 69 11) - (Int32.ofInt 1)).toInt64)
  else none
theorem fx_M_isLeft {a1 : Int32} {hp : px_H} {res : Int32} (hS : oS hp) (h : fn_M_isLeft a1 hp = some res) : px_C nm_T nm_P mi_M_isLeft [.ref 69, .int a1] hp (some (.int res)) hp ∧ oS hp := by
  unfold fn_M_isLeft at h
  refine py_C (M := mm_M_isLeft) rfl (Nat.le_of_ble_eq_true rfl) ?_
  show px_Y mm_M_isLeft 0 [(0, .ref 69), (1, .int a1)] [] hp _ _
  refine py_its (pc := 0) (pc1 := 3) (lv1 := [(0, .ref 69), (1, .int a1)]) (st1 := [.ref 69, .long a1.toInt64]) 3 (fun _ _ _ _ => rfl) ?_
  refine py_gI (pc := 3) (len := 3) (cs := [69]) rfl rfl rfl List.mem_cons_self hS ?_
  refine py_its (pc := 6) (pc1 := 8) (lv1 := [(0, .ref 69), (1, .int a1)]) (st1 := [.ref 69, .long (gI hp 69 31).toInt64, .long a1.toInt64]) 2 (fun _ _ _ _ => rfl) ?_
  refine py_gI (pc := 8) (len := 3) (cs := [69]) rfl rfl rfl List.mem_cons_self hS ?_
  refine py_its (pc := 11) (pc1 := 14) (lv1 := [(0, .ref 69), (1, .int a1)]) (st1 := [.long ((gI hp 69 11) - (Int32.ofInt 1)).toInt64, .long (gI hp 69 31).toInt64, .long a1.toInt64]) 3 (fun _ _ _ _ => rfl) ?_
  refine py_st (pc := 14) (mi := mi_M_in) (N := mm_M_in) rfl rfl rfl (Nat.le_of_ble_eq_true rfl) (Nat.le_of_ble_eq_true rfl) rfl rfl (sx_in_C a1.toInt64 (gI hp 69 31).toInt64 ((gI hp 69 11) - (Int32.ofInt 1)).toInt64 hp) ?_
  show px_Y mm_M_isLeft 17 [(0, .ref 69), (1, .int a1)] [.int (sx_in a1.toInt64 (gI hp 69 31).toInt64 ((gI hp 69 11) - (Int32.ofInt 1)).toInt64)] hp _ _
  obtain ⟨hz1, h⟩ := cd_n h
  have h := Option.some.inj h
  subst h
  exact py_ir (pc := 17) (len := 1) (ty := .boolean) rfl rfl hz1 hS
/-! M_empties -/
noncomputable def fb_M_empties_L9 (v1 : Int32) (rc : Int32 → px_H → Option (px_H)) (v2 : Int32) (hp : px_H) : Option (px_H) :=
  bif px_cmp .ge v2 (Int16.ofInt 8192).toInt32 then
    some hp
  else
    bif px_inR ((v1 * (Int16.ofInt 8192).toInt32) + v2) 24576 then
    sb (uI hp 97 ((v1 * (Int16.ofInt 8192).toInt32) + v2).toNatClampNeg (Int32.ofInt (-1))) fun h6 =>
    rc (v2 + Int32.ofInt 1) h6
    else none
noncomputable def fn_M_empties_L9 (v1 : Int32) : Nat → Int32 → px_H → Option (px_H)
  | 0 => fun _ _ => none
  | n + 1 => fb_M_empties_L9 v1 (fn_M_empties_L9 v1 n)
theorem fl_M_empties_L9 {v1 : Int32}  : ∀ (n : Nat) (v2 : Int32) (hp : px_H) (lv : List (Nat × Value)) (res : px_H), oS hp → lk lv [(0, .ref 69), (1, .int v1), (2, .int v2)] → fn_M_empties_L9 v1 n v2 hp = some res → px_Y mm_M_empties 9 lv [] hp none res := by
  intro n
  induction n with
  | zero =>
    intro v2 hp lv res hS hk h
    cases h
  | succ n ih =>
    intro v2 hp lv res hS hk h
    have h : fb_M_empties_L9 v1 (fn_M_empties_L9 v1 n) v2 hp = some res := h
    unfold fb_M_empties_L9 at h
    refine py_iln (pc := 9) (len := 1) (j := 2) rfl hk rfl ?_
    refine py_its (pc := 10) (pc1 := 13) (lv1 := lv) (st1 := [.int (Int16.ofInt 8192).toInt32, .int v2]) 1 (fun _ _ _ _ => rfl) ?_
    cases hb4 : px_cmp .ge v2 (Int16.ofInt 8192).toInt32 with
    | true =>
      have h := cd_t hb4 h
      refine py_ic (pc := 13) (len := 3) true rfl hb4 ?_
      have h := Option.some.inj h
      subst h
      exact py_rt (pc := 35) (len := 1) rfl rfl hS
    | false =>
      have h := cd_f hb4 h
      refine py_ic (pc := 13) (len := 3) false rfl hb4 ?_
      refine py_aln (pc := 16) (len := 1) (j := 0) rfl hk rfl ?_
      refine py_g1 97 (pc := 17) (len := 3) (cs := [69]) rfl rfl rfl List.mem_cons_self hS ?_
      refine py_iln (pc := 20) (len := 1) (j := 1) rfl hk rfl ?_
      refine py_its (pc := 21) (pc1 := 25) (lv1 := lv) (st1 := [.int (v1 * (Int16.ofInt 8192).toInt32), .ref 97]) 2 (fun _ _ _ _ => rfl) ?_
      refine py_iln (pc := 25) (len := 1) (j := 2) rfl hk rfl ?_
      refine py_its (pc := 26) (pc1 := 28) (lv1 := lv) (st1 := [.int (Int32.ofInt (-1)), .int ((v1 * (Int16.ofInt 8192).toInt32) + v2), .ref 97]) 2 (fun _ _ _ _ => rfl) ?_
      obtain ⟨hi5, h⟩ := cd_n h
      have h := sb_e h
      refine py_si (pc := 28) (len := 1) (cs := [97]) (t := 54) (n := 24576) rfl rfl rfl hi5 List.mem_cons_self hS ?_
      have hS7 : oS (uI hp 97 ((v1 * (Int16.ofInt 8192).toInt32) + v2).toNatClampNeg (Int32.ofInt (-1))) := oS_uI (cs := [97]) (t := 54) (n := 24576) rfl List.mem_cons_self hS
      generalize (uI hp 97 ((v1 * (Int16.ofInt 8192).toInt32) + v2).toNatClampNeg (Int32.ofInt (-1))) = h6 at h hS7 ⊢
      refine py_inc (pc := 29) (len := 3) (j := 2) (n := 1) rfl rfl hk rfl (fun lv8 hk9 => ?_)
      have hk9 : lk lv8 [(2, .int (v2 + Int32.ofInt 1)), (0, .ref 69), (1, .int v1)] := hk9
      refine py_its (pc := 32) (pc1 := 9) (lv1 := lv8) (st1 := []) 1 (fun _ _ _ _ => rfl) ?_
      exact ih (v2 + Int32.ofInt 1) h6 lv8 _ hS7 ⟨lk_find hk9 rfl, lk_find hk9 rfl, lk_find hk9 rfl, trivial⟩ h
noncomputable def fn_M_empties (a1 : Int32) (hp : px_H) : Option (px_H) :=
  bif px_inR a1 3 then
  sb (uI hp 96 a1.toNatClampNeg (Int32.ofInt 0)) fun h2 =>
  fn_M_empties_L9 a1 fu (Int32.ofInt 0) h2
  else none
theorem fx_M_empties {a1 : Int32} {hp : px_H} {res : px_H} (hS : oS hp) (h : fn_M_empties a1 hp = some res) : px_C nm_T nm_P mi_M_empties [.ref 69, .int a1] hp none res ∧ oS res := by
  unfold fn_M_empties at h
  refine py_C (M := mm_M_empties) rfl (Nat.le_of_ble_eq_true rfl) ?_
  show px_Y mm_M_empties 0 [(0, .ref 69), (1, .int a1)] [] hp _ _
  refine py_its (pc := 0) (pc1 := 1) (lv1 := [(0, .ref 69), (1, .int a1)]) (st1 := [.ref 69]) 1 (fun _ _ _ _ => rfl) ?_
  refine py_g1 96 (pc := 1) (len := 3) (cs := [69]) rfl rfl rfl List.mem_cons_self hS ?_
  refine py_its (pc := 4) (pc1 := 6) (lv1 := [(0, .ref 69), (1, .int a1)]) (st1 := [.int (Int32.ofInt 0), .int a1, .ref 96]) 2 (fun _ _ _ _ => rfl) ?_
  obtain ⟨hi1, h⟩ := cd_n h
  have h := sb_e h
  refine py_si (pc := 6) (len := 1) (cs := [96]) (t := 53) (n := 3) rfl rfl rfl hi1 List.mem_cons_self hS ?_
  have hS3 : oS (uI hp 96 a1.toNatClampNeg (Int32.ofInt 0)) := oS_uI (cs := [96]) (t := 53) (n := 3) rfl List.mem_cons_self hS
  generalize (uI hp 96 a1.toNatClampNeg (Int32.ofInt 0)) = h2 at h hS3 ⊢
  refine py_its (pc := 7) (pc1 := 9) (lv1 := [(2, .int (Int32.ofInt 0)), (0, .ref 69), (1, .int a1)]) (st1 := []) 2 (fun _ _ _ _ => rfl) ?_
  exact fl_M_empties_L9 fu (Int32.ofInt 0) h2 [(2, .int (Int32.ofInt 0)), (0, .ref 69), (1, .int a1)] _ hS3 ⟨rfl, rfl, rfl, trivial⟩ h
/-! M_placeOf -/
noncomputable def fn_M_placeOf (a0 : Int64) (a1 : Int64) (hp : px_H) : Option (Int32) :=
  some ((sx_lus ((((a0 * (Int64.ofInt 1000003)) + (a1 * (Int64.ofInt 7919))) ^^^ (sx_lus ((a0 * (Int64.ofInt 1000003)) + (a1 * (Int64.ofInt 7919))) (Int8.ofInt 31).toInt32)) * (Int64.ofInt 1000000007)) (Int8.ofInt 35).toInt32).toInt32 &&& (Int16.ofInt 8191).toInt32)
theorem fx_M_placeOf {a0 : Int64} {a1 : Int64} {hp : px_H} {res : Int32} (hS : oS hp) (h : fn_M_placeOf a0 a1 hp = some res) : px_C nm_T nm_P mi_M_placeOf [.long a0, .long a1] hp (some (.int res)) hp ∧ oS hp := by
  unfold fn_M_placeOf at h
  refine py_C (M := mm_M_placeOf) rfl (Nat.le_of_ble_eq_true rfl) ?_
  show px_Y mm_M_placeOf 0 [(0, .long a0), (2, .long a1)] [] hp _ _
  refine py_its (pc := 0) (pc1 := 41) (lv1 := [(4, .long ((((a0 * (Int64.ofInt 1000003)) + (a1 * (Int64.ofInt 7919))) ^^^ (sx_lus ((a0 * (Int64.ofInt 1000003)) + (a1 * (Int64.ofInt 7919))) (Int8.ofInt 31).toInt32)) * (Int64.ofInt 1000000007))), (0, .long a0), (2, .long a1)]) (st1 := [.int ((sx_lus ((((a0 * (Int64.ofInt 1000003)) + (a1 * (Int64.ofInt 7919))) ^^^ (sx_lus ((a0 * (Int64.ofInt 1000003)) + (a1 * (Int64.ofInt 7919))) (Int8.ofInt 31).toInt32)) * (Int64.ofInt 1000000007)) (Int8.ofInt 35).toInt32).toInt32 &&& (Int16.ofInt 8191).toInt32)]) 24 (fun _ _ _ _ => rfl) ?_
  have h := Option.some.inj h
  subst h
  exact py_ir (pc := 41) (len := 1) (ty := .int) rfl rfl rfl hS
/-! M_adds -/
noncomputable def fb_M_adds_L21 (v1 : Int32) (v2 : Int64) (v4 : Int64) (v6 : Int64) (rc : Int32 → px_H → Option (Int32 × px_H)) (v8 : Int32) (hp : px_H) : Option (Int32 × px_H) :=
  bif px_inR ((v1 * (Int16.ofInt 8192).toInt32) + v8) 24576 then
  bif px_cmp .lt (aI hp 97 ((v1 * (Int16.ofInt 8192).toInt32) + v8).toNatClampNeg) 0 then
    bif px_inR v1 3 then
    bif px_cmp .ne (aI hp 96 v1.toNatClampNeg) (Int16.ofInt 3000).toInt32 then
      bif px_inR v1 3 then
      bif px_inR ((v1 * (Int16.ofInt 8192).toInt32) + v8) 24576 then
      sb (uI hp 97 ((v1 * (Int16.ofInt 8192).toInt32) + v8).toNatClampNeg (aI hp 96 v1.toNatClampNeg)) fun h16 =>
      bif px_inR v1 3 then
      bif px_inR ((v1 * (Int16.ofInt 3001).toInt32) + (aI h16 96 v1.toNatClampNeg)) 9003 then
      sb (uL h16 93 ((v1 * (Int16.ofInt 3001).toInt32) + (aI h16 96 v1.toNatClampNeg)).toNatClampNeg v4) fun h22 =>
      bif px_inR ((v1 * (Int16.ofInt 3001).toInt32) + (aI h16 96 v1.toNatClampNeg)) 9003 then
      sb (uL h22 94 ((v1 * (Int16.ofInt 3001).toInt32) + (aI h16 96 v1.toNatClampNeg)).toNatClampNeg v6) fun h25 =>
      bif px_inR ((v1 * (Int16.ofInt 3001).toInt32) + (aI h16 96 v1.toNatClampNeg)) 9003 then
      sb (uL h25 95 ((v1 * (Int16.ofInt 3001).toInt32) + (aI h16 96 v1.toNatClampNeg)).toNatClampNeg v2) fun h28 =>
      bif px_inR v1 3 then
      bif px_inR v1 3 then
      sb (uI h28 96 v1.toNatClampNeg ((aI h28 96 v1.toNatClampNeg) + (Int32.ofInt 1))) fun h32 =>
      some ((Int32.ofInt 1), h32)
      else none
      else none
      else none
      else none
      else none
      else none
      else none
      else none
    else
      some ((Int32.ofInt 0), hp)
    else none
  else
    bif px_inR ((v1 * (Int16.ofInt 8192).toInt32) + v8) 24576 then
    bif px_inR ((v1 * (Int16.ofInt 3001).toInt32) + (aI hp 97 ((v1 * (Int16.ofInt 8192).toInt32) + v8).toNatClampNeg)) 9003 then
    bif px_cmp .ne (lg_cmp (aL hp 93 ((v1 * (Int16.ofInt 3001).toInt32) + (aI hp 97 ((v1 * (Int16.ofInt 8192).toInt32) + v8).toNatClampNeg)).toNatClampNeg) v4) 0 then
      rc ((v8 + (Int32.ofInt 1)) &&& (Int16.ofInt 8191).toInt32) hp
    else
      bif px_inR ((v1 * (Int16.ofInt 3001).toInt32) + (aI hp 97 ((v1 * (Int16.ofInt 8192).toInt32) + v8).toNatClampNeg)) 9003 then
      bif px_cmp .ne (lg_cmp (aL hp 94 ((v1 * (Int16.ofInt 3001).toInt32) + (aI hp 97 ((v1 * (Int16.ofInt 8192).toInt32) + v8).toNatClampNeg)).toNatClampNeg) v6) 0 then
        rc ((v8 + (Int32.ofInt 1)) &&& (Int16.ofInt 8191).toInt32) hp
      else
        bif px_inR ((v1 * (Int16.ofInt 3001).toInt32) + (aI hp 97 ((v1 * (Int16.ofInt 8192).toInt32) + v8).toNatClampNeg)) 9003 then
        bif px_inR ((v1 * (Int16.ofInt 3001).toInt32) + (aI hp 97 ((v1 * (Int16.ofInt 8192).toInt32) + v8).toNatClampNeg)) 9003 then
        sb (uL hp 95 ((v1 * (Int16.ofInt 3001).toInt32) + (aI hp 97 ((v1 * (Int16.ofInt 8192).toInt32) + v8).toNatClampNeg)).toNatClampNeg ((aL hp 95 ((v1 * (Int16.ofInt 3001).toInt32) + (aI hp 97 ((v1 * (Int16.ofInt 8192).toInt32) + v8).toNatClampNeg)).toNatClampNeg) + v2)) fun h47 =>
        some ((Int32.ofInt 1), h47)
        else none
        else none
      else none
    else none
    else none
  else none
noncomputable def fn_M_adds_L21 (v1 : Int32) (v2 : Int64) (v4 : Int64) (v6 : Int64) : Nat → Int32 → px_H → Option (Int32 × px_H)
  | 0 => fun _ _ => none
  | n + 1 => fb_M_adds_L21 v1 v2 v4 v6 (fn_M_adds_L21 v1 v2 v4 v6 n)
theorem fl_M_adds_L21 {v1 : Int32} {v2 : Int64} {v4 : Int64} {v6 : Int64}  : ∀ (n : Nat) (v8 : Int32) (hp : px_H) (lv : List (Nat × Value)) (res : Int32 × px_H), oS hp → lk lv [(0, .ref 69), (1, .int v1), (2, .long v2), (4, .long v4), (6, .long v6), (8, .int v8)] → fn_M_adds_L21 v1 v2 v4 v6 n v8 hp = some res → px_Y mm_M_adds 21 lv [] hp (some (.int res.1)) res.2 := by
  intro n
  induction n with
  | zero =>
    intro v8 hp lv res hS hk h
    cases h
  | succ n ih =>
    intro v8 hp lv res hS hk h
    have h : fb_M_adds_L21 v1 v2 v4 v6 (fn_M_adds_L21 v1 v2 v4 v6 n) v8 hp = some res := h
    unfold fb_M_adds_L21 at h
    refine py_aln (pc := 21) (len := 1) (j := 0) rfl hk rfl ?_
    refine py_g1 97 (pc := 22) (len := 3) (cs := [69]) rfl rfl rfl List.mem_cons_self hS ?_
    refine py_iln (pc := 25) (len := 1) (j := 1) rfl hk rfl ?_
    refine py_its (pc := 26) (pc1 := 30) (lv1 := lv) (st1 := [.int (v1 * (Int16.ofInt 8192).toInt32), .ref 97]) 2 (fun _ _ _ _ => rfl) ?_
    refine py_il (pc := 30) (len := 2) (j := 8) rfl hk rfl ?_
    refine py_its (pc := 32) (pc1 := 33) (lv1 := lv) (st1 := [.int ((v1 * (Int16.ofInt 8192).toInt32) + v8), .ref 97]) 1 (fun _ _ _ _ => rfl) ?_
    obtain ⟨hi10, h⟩ := cd_n h
    refine py_ai (pc := 33) (len := 1) (cs := [97]) (t := 54) (n := 24576) rfl rfl rfl hi10 List.mem_cons_self hS ?_
    cases hb11 : px_cmp .lt (aI hp 97 ((v1 * (Int16.ofInt 8192).toInt32) + v8).toNatClampNeg) 0 with
    | true =>
      have h := cd_t hb11 h
      refine py_if (pc := 34) (len := 3) true rfl hb11 ?_
      refine py_aln (pc := 110) (len := 1) (j := 0) rfl hk rfl ?_
      refine py_g1 96 (pc := 111) (len := 3) (cs := [69]) rfl rfl rfl List.mem_cons_self hS ?_
      refine py_iln (pc := 114) (len := 1) (j := 1) rfl hk rfl ?_
      obtain ⟨hi12, h⟩ := cd_n h
      refine py_ai (pc := 115) (len := 1) (cs := [96]) (t := 53) (n := 3) rfl rfl rfl hi12 List.mem_cons_self hS ?_
      refine py_its (pc := 116) (pc1 := 119) (lv1 := lv) (st1 := [.int (Int16.ofInt 3000).toInt32, .int (aI hp 96 v1.toNatClampNeg)]) 1 (fun _ _ _ _ => rfl) ?_
      cases hb13 : px_cmp .ne (aI hp 96 v1.toNatClampNeg) (Int16.ofInt 3000).toInt32 with
      | true =>
        have h := cd_t hb13 h
        refine py_ic (pc := 119) (len := 3) true rfl hb13 ?_
        refine py_aln (pc := 124) (len := 1) (j := 0) rfl hk rfl ?_
        refine py_g1 97 (pc := 125) (len := 3) (cs := [69]) rfl rfl rfl List.mem_cons_self hS ?_
        refine py_iln (pc := 128) (len := 1) (j := 1) rfl hk rfl ?_
        refine py_its (pc := 129) (pc1 := 133) (lv1 := lv) (st1 := [.int (v1 * (Int16.ofInt 8192).toInt32), .ref 97]) 2 (fun _ _ _ _ => rfl) ?_
        refine py_il (pc := 133) (len := 2) (j := 8) rfl hk rfl ?_
        refine py_its (pc := 135) (pc1 := 136) (lv1 := lv) (st1 := [.int ((v1 * (Int16.ofInt 8192).toInt32) + v8), .ref 97]) 1 (fun _ _ _ _ => rfl) ?_
        refine py_aln (pc := 136) (len := 1) (j := 0) rfl hk rfl ?_
        refine py_g1 96 (pc := 137) (len := 3) (cs := [69]) rfl rfl rfl List.mem_cons_self hS ?_
        refine py_iln (pc := 140) (len := 1) (j := 1) rfl hk rfl ?_
        obtain ⟨hi14, h⟩ := cd_n h
        refine py_ai (pc := 141) (len := 1) (cs := [96]) (t := 53) (n := 3) rfl rfl rfl hi14 List.mem_cons_self hS ?_
        obtain ⟨hi15, h⟩ := cd_n h
        have h := sb_e h
        refine py_si (pc := 142) (len := 1) (cs := [97]) (t := 54) (n := 24576) rfl rfl rfl hi15 List.mem_cons_self hS ?_
        have hS17 : oS (uI hp 97 ((v1 * (Int16.ofInt 8192).toInt32) + v8).toNatClampNeg (aI hp 96 v1.toNatClampNeg)) := oS_uI (cs := [97]) (t := 54) (n := 24576) rfl List.mem_cons_self hS
        generalize (uI hp 97 ((v1 * (Int16.ofInt 8192).toInt32) + v8).toNatClampNeg (aI hp 96 v1.toNatClampNeg)) = h16 at h hS17 ⊢
        refine py_iln (pc := 143) (len := 1) (j := 1) rfl hk rfl ?_
        refine py_its (pc := 144) (pc1 := 148) (lv1 := lv) (st1 := [.int (v1 * (Int16.ofInt 3001).toInt32)]) 2 (fun _ _ _ _ => rfl) ?_
        refine py_aln (pc := 148) (len := 1) (j := 0) rfl hk rfl ?_
        refine py_g1 96 (pc := 149) (len := 3) (cs := [69]) rfl rfl rfl List.mem_cons_self hS17 ?_
        refine py_iln (pc := 152) (len := 1) (j := 1) rfl hk rfl ?_
        obtain ⟨hi18, h⟩ := cd_n h
        refine py_ai (pc := 153) (len := 1) (cs := [96]) (t := 53) (n := 3) rfl rfl rfl hi18 List.mem_cons_self hS17 ?_
        refine py_its (pc := 154) (pc1 := 155) (lv1 := lv) (st1 := [.int ((v1 * (Int16.ofInt 3001).toInt32) + (aI h16 96 v1.toNatClampNeg))]) 1 (fun _ _ _ _ => rfl) ?_
        refine py_sti (pc := 155) (len := 2) (j := 9) rfl rfl hk (fun lv19 hk20 => ?_)
        have hk20 : lk lv19 [(9, .int ((v1 * (Int16.ofInt 3001).toInt32) + (aI h16 96 v1.toNatClampNeg))), (0, .ref 69), (1, .int v1), (2, .long v2), (4, .long v4), (6, .long v6), (8, .int v8)] := hk20
        refine py_aln (pc := 157) (len := 1) (j := 0) rfl hk20 rfl ?_
        refine py_g1 93 (pc := 158) (len := 3) (cs := [69]) rfl rfl rfl List.mem_cons_self hS17 ?_
        refine py_il (pc := 161) (len := 2) (j := 9) rfl hk20 rfl ?_
        refine py_ll (pc := 163) (len := 2) (j := 4) rfl hk20 rfl ?_
        obtain ⟨hi21, h⟩ := cd_n h
        have h := sb_e h
        refine py_sl (pc := 165) (len := 1) (cs := [93]) (t := 50) (n := 9003) rfl rfl rfl hi21 List.mem_cons_self hS17 ?_
        have hS23 : oS (uL h16 93 ((v1 * (Int16.ofInt 3001).toInt32) + (aI h16 96 v1.toNatClampNeg)).toNatClampNeg v4) := oS_uL (cs := [93]) (t := 50) (n := 9003) rfl List.mem_cons_self hS17
        generalize (uL h16 93 ((v1 * (Int16.ofInt 3001).toInt32) + (aI h16 96 v1.toNatClampNeg)).toNatClampNeg v4) = h22 at h hS23 ⊢
        refine py_aln (pc := 166) (len := 1) (j := 0) rfl hk20 rfl ?_
        refine py_g1 94 (pc := 167) (len := 3) (cs := [69]) rfl rfl rfl List.mem_cons_self hS23 ?_
        refine py_il (pc := 170) (len := 2) (j := 9) rfl hk20 rfl ?_
        refine py_ll (pc := 172) (len := 2) (j := 6) rfl hk20 rfl ?_
        obtain ⟨hi24, h⟩ := cd_n h
        have h := sb_e h
        refine py_sl (pc := 174) (len := 1) (cs := [94]) (t := 51) (n := 9003) rfl rfl rfl hi24 List.mem_cons_self hS23 ?_
        have hS26 : oS (uL h22 94 ((v1 * (Int16.ofInt 3001).toInt32) + (aI h16 96 v1.toNatClampNeg)).toNatClampNeg v6) := oS_uL (cs := [94]) (t := 51) (n := 9003) rfl List.mem_cons_self hS23
        generalize (uL h22 94 ((v1 * (Int16.ofInt 3001).toInt32) + (aI h16 96 v1.toNatClampNeg)).toNatClampNeg v6) = h25 at h hS26 ⊢
        refine py_aln (pc := 175) (len := 1) (j := 0) rfl hk20 rfl ?_
        refine py_g1 95 (pc := 176) (len := 3) (cs := [69]) rfl rfl rfl List.mem_cons_self hS26 ?_
        refine py_il (pc := 179) (len := 2) (j := 9) rfl hk20 rfl ?_
        refine py_lln (pc := 181) (len := 1) (j := 2) rfl hk20 rfl ?_
        obtain ⟨hi27, h⟩ := cd_n h
        have h := sb_e h
        refine py_sl (pc := 182) (len := 1) (cs := [95]) (t := 52) (n := 9003) rfl rfl rfl hi27 List.mem_cons_self hS26 ?_
        have hS29 : oS (uL h25 95 ((v1 * (Int16.ofInt 3001).toInt32) + (aI h16 96 v1.toNatClampNeg)).toNatClampNeg v2) := oS_uL (cs := [95]) (t := 52) (n := 9003) rfl List.mem_cons_self hS26
        generalize (uL h25 95 ((v1 * (Int16.ofInt 3001).toInt32) + (aI h16 96 v1.toNatClampNeg)).toNatClampNeg v2) = h28 at h hS29 ⊢
        refine py_aln (pc := 183) (len := 1) (j := 0) rfl hk20 rfl ?_
        refine py_g1 96 (pc := 184) (len := 3) (cs := [69]) rfl rfl rfl List.mem_cons_self hS29 ?_
        refine py_iln (pc := 187) (len := 1) (j := 1) rfl hk20 rfl ?_
        refine py_its (pc := 188) (pc1 := 189) (lv1 := lv19) (st1 := [.int v1, .ref 96, .int v1, .ref 96]) 1 (fun _ _ _ _ => rfl) ?_
        obtain ⟨hi30, h⟩ := cd_n h
        refine py_ai (pc := 189) (len := 1) (cs := [96]) (t := 53) (n := 3) rfl rfl rfl hi30 List.mem_cons_self hS29 ?_
        refine py_its (pc := 190) (pc1 := 192) (lv1 := lv19) (st1 := [.int ((aI h28 96 v1.toNatClampNeg) + (Int32.ofInt 1)), .int v1, .ref 96]) 2 (fun _ _ _ _ => rfl) ?_
        obtain ⟨hi31, h⟩ := cd_n h
        have h := sb_e h
        refine py_si (pc := 192) (len := 1) (cs := [96]) (t := 53) (n := 3) rfl rfl rfl hi31 List.mem_cons_self hS29 ?_
        have hS33 : oS (uI h28 96 v1.toNatClampNeg ((aI h28 96 v1.toNatClampNeg) + (Int32.ofInt 1))) := oS_uI (cs := [96]) (t := 53) (n := 3) rfl List.mem_cons_self hS29
        generalize (uI h28 96 v1.toNatClampNeg ((aI h28 96 v1.toNatClampNeg) + (Int32.ofInt 1))) = h32 at h hS33 ⊢
        refine py_its (pc := 193) (pc1 := 194) (lv1 := lv19) (st1 := [.int (Int32.ofInt 1)]) 1 (fun _ _ _ _ => rfl) ?_
        have h := Option.some.inj h
        subst h
        exact py_ir (pc := 194) (len := 1) (ty := .boolean) rfl rfl (by decide) hS33
      | false =>
        have h := cd_f hb13 h
        refine py_ic (pc := 119) (len := 3) false rfl hb13 ?_
        refine py_its (pc := 122) (pc1 := 123) (lv1 := lv) (st1 := [.int (Int32.ofInt 0)]) 1 (fun _ _ _ _ => rfl) ?_
        have h := Option.some.inj h
        subst h
        exact py_ir (pc := 123) (len := 1) (ty := .boolean) rfl rfl (by decide) hS
    | false =>
      have h := cd_f hb11 h
      refine py_if (pc := 34) (len := 3) false rfl hb11 ?_
      refine py_iln (pc := 37) (len := 1) (j := 1) rfl hk rfl ?_
      refine py_its (pc := 38) (pc1 := 42) (lv1 := lv) (st1 := [.int (v1 * (Int16.ofInt 3001).toInt32)]) 2 (fun _ _ _ _ => rfl) ?_
      refine py_aln (pc := 42) (len := 1) (j := 0) rfl hk rfl ?_
      refine py_g1 97 (pc := 43) (len := 3) (cs := [69]) rfl rfl rfl List.mem_cons_self hS ?_
      refine py_iln (pc := 46) (len := 1) (j := 1) rfl hk rfl ?_
      refine py_its (pc := 47) (pc1 := 51) (lv1 := lv) (st1 := [.int (v1 * (Int16.ofInt 8192).toInt32), .ref 97, .int (v1 * (Int16.ofInt 3001).toInt32)]) 2 (fun _ _ _ _ => rfl) ?_
      refine py_il (pc := 51) (len := 2) (j := 8) rfl hk rfl ?_
      refine py_its (pc := 53) (pc1 := 54) (lv1 := lv) (st1 := [.int ((v1 * (Int16.ofInt 8192).toInt32) + v8), .ref 97, .int (v1 * (Int16.ofInt 3001).toInt32)]) 1 (fun _ _ _ _ => rfl) ?_
      obtain ⟨hi34, h⟩ := cd_n h
      refine py_ai (pc := 54) (len := 1) (cs := [97]) (t := 54) (n := 24576) rfl rfl rfl hi34 List.mem_cons_self hS ?_
      refine py_its (pc := 55) (pc1 := 56) (lv1 := lv) (st1 := [.int ((v1 * (Int16.ofInt 3001).toInt32) + (aI hp 97 ((v1 * (Int16.ofInt 8192).toInt32) + v8).toNatClampNeg))]) 1 (fun _ _ _ _ => rfl) ?_
      refine py_sti (pc := 56) (len := 2) (j := 9) rfl rfl hk (fun lv35 hk36 => ?_)
      have hk36 : lk lv35 [(9, .int ((v1 * (Int16.ofInt 3001).toInt32) + (aI hp 97 ((v1 * (Int16.ofInt 8192).toInt32) + v8).toNatClampNeg))), (0, .ref 69), (1, .int v1), (2, .long v2), (4, .long v4), (6, .long v6), (8, .int v8)] := hk36
      refine py_aln (pc := 58) (len := 1) (j := 0) rfl hk36 rfl ?_
      refine py_g1 93 (pc := 59) (len := 3) (cs := [69]) rfl rfl rfl List.mem_cons_self hS ?_
      refine py_il (pc := 62) (len := 2) (j := 9) rfl hk36 rfl ?_
      obtain ⟨hi37, h⟩ := cd_n h
      refine py_al (pc := 64) (len := 1) (cs := [93]) (t := 50) (n := 9003) rfl rfl rfl hi37 List.mem_cons_self hS ?_
      refine py_ll (pc := 65) (len := 2) (j := 4) rfl hk36 rfl ?_
      cases hb38 : px_cmp .ne (lg_cmp (aL hp 93 ((v1 * (Int16.ofInt 3001).toInt32) + (aI hp 97 ((v1 * (Int16.ofInt 8192).toInt32) + v8).toNatClampNeg)).toNatClampNeg) v4) 0 with
      | true =>
        have h := cd_t hb38 h
        refine py_lc (pc := 67) (len := 1) true rfl rfl hb38 ?_
        refine py_il (pc := 97) (len := 2) (j := 8) rfl hk36 rfl ?_
        refine py_its (pc := 99) (pc1 := 105) (lv1 := lv35) (st1 := [.int ((v8 + (Int32.ofInt 1)) &&& (Int16.ofInt 8191).toInt32)]) 4 (fun _ _ _ _ => rfl) ?_
        refine py_sti (pc := 105) (len := 2) (j := 8) rfl rfl hk36 (fun lv39 hk40 => ?_)
        have hk40 : lk lv39 [(8, .int ((v8 + (Int32.ofInt 1)) &&& (Int16.ofInt 8191).toInt32)), (9, .int ((v1 * (Int16.ofInt 3001).toInt32) + (aI hp 97 ((v1 * (Int16.ofInt 8192).toInt32) + v8).toNatClampNeg))), (0, .ref 69), (1, .int v1), (2, .long v2), (4, .long v4), (6, .long v6)] := hk40
        refine py_its (pc := 107) (pc1 := 21) (lv1 := lv39) (st1 := []) 1 (fun _ _ _ _ => rfl) ?_
        exact ih ((v8 + (Int32.ofInt 1)) &&& (Int16.ofInt 8191).toInt32) hp lv39 _ hS ⟨lk_find hk40 rfl, lk_find hk40 rfl, lk_find hk40 rfl, lk_find hk40 rfl, lk_find hk40 rfl, lk_find hk40 rfl, trivial⟩ h
      | false =>
        have h := cd_f hb38 h
        refine py_lc (pc := 67) (len := 1) false rfl rfl hb38 ?_
        refine py_aln (pc := 71) (len := 1) (j := 0) rfl hk36 rfl ?_
        refine py_g1 94 (pc := 72) (len := 3) (cs := [69]) rfl rfl rfl List.mem_cons_self hS ?_
        refine py_il (pc := 75) (len := 2) (j := 9) rfl hk36 rfl ?_
        obtain ⟨hi41, h⟩ := cd_n h
        refine py_al (pc := 77) (len := 1) (cs := [94]) (t := 51) (n := 9003) rfl rfl rfl hi41 List.mem_cons_self hS ?_
        refine py_ll (pc := 78) (len := 2) (j := 6) rfl hk36 rfl ?_
        cases hb42 : px_cmp .ne (lg_cmp (aL hp 94 ((v1 * (Int16.ofInt 3001).toInt32) + (aI hp 97 ((v1 * (Int16.ofInt 8192).toInt32) + v8).toNatClampNeg)).toNatClampNeg) v6) 0 with
        | true =>
          have h := cd_t hb42 h
          refine py_lc (pc := 80) (len := 1) true rfl rfl hb42 ?_
          refine py_il (pc := 97) (len := 2) (j := 8) rfl hk36 rfl ?_
          refine py_its (pc := 99) (pc1 := 105) (lv1 := lv35) (st1 := [.int ((v8 + (Int32.ofInt 1)) &&& (Int16.ofInt 8191).toInt32)]) 4 (fun _ _ _ _ => rfl) ?_
          refine py_sti (pc := 105) (len := 2) (j := 8) rfl rfl hk36 (fun lv43 hk44 => ?_)
          have hk44 : lk lv43 [(8, .int ((v8 + (Int32.ofInt 1)) &&& (Int16.ofInt 8191).toInt32)), (9, .int ((v1 * (Int16.ofInt 3001).toInt32) + (aI hp 97 ((v1 * (Int16.ofInt 8192).toInt32) + v8).toNatClampNeg))), (0, .ref 69), (1, .int v1), (2, .long v2), (4, .long v4), (6, .long v6)] := hk44
          refine py_its (pc := 107) (pc1 := 21) (lv1 := lv43) (st1 := []) 1 (fun _ _ _ _ => rfl) ?_
          exact ih ((v8 + (Int32.ofInt 1)) &&& (Int16.ofInt 8191).toInt32) hp lv43 _ hS ⟨lk_find hk44 rfl, lk_find hk44 rfl, lk_find hk44 rfl, lk_find hk44 rfl, lk_find hk44 rfl, lk_find hk44 rfl, trivial⟩ h
        | false =>
          have h := cd_f hb42 h
          refine py_lc (pc := 80) (len := 1) false rfl rfl hb42 ?_
          refine py_aln (pc := 84) (len := 1) (j := 0) rfl hk36 rfl ?_
          refine py_g1 95 (pc := 85) (len := 3) (cs := [69]) rfl rfl rfl List.mem_cons_self hS ?_
          refine py_il (pc := 88) (len := 2) (j := 9) rfl hk36 rfl ?_
          refine py_its (pc := 90) (pc1 := 91) (lv1 := lv35) (st1 := [.int ((v1 * (Int16.ofInt 3001).toInt32) + (aI hp 97 ((v1 * (Int16.ofInt 8192).toInt32) + v8).toNatClampNeg)), .ref 95, .int ((v1 * (Int16.ofInt 3001).toInt32) + (aI hp 97 ((v1 * (Int16.ofInt 8192).toInt32) + v8).toNatClampNeg)), .ref 95]) 1 (fun _ _ _ _ => rfl) ?_
          obtain ⟨hi45, h⟩ := cd_n h
          refine py_al (pc := 91) (len := 1) (cs := [95]) (t := 52) (n := 9003) rfl rfl rfl hi45 List.mem_cons_self hS ?_
          refine py_lln (pc := 92) (len := 1) (j := 2) rfl hk36 rfl ?_
          refine py_its (pc := 93) (pc1 := 94) (lv1 := lv35) (st1 := [.long ((aL hp 95 ((v1 * (Int16.ofInt 3001).toInt32) + (aI hp 97 ((v1 * (Int16.ofInt 8192).toInt32) + v8).toNatClampNeg)).toNatClampNeg) + v2), .int ((v1 * (Int16.ofInt 3001).toInt32) + (aI hp 97 ((v1 * (Int16.ofInt 8192).toInt32) + v8).toNatClampNeg)), .ref 95]) 1 (fun _ _ _ _ => rfl) ?_
          obtain ⟨hi46, h⟩ := cd_n h
          have h := sb_e h
          refine py_sl (pc := 94) (len := 1) (cs := [95]) (t := 52) (n := 9003) rfl rfl rfl hi46 List.mem_cons_self hS ?_
          have hS48 : oS (uL hp 95 ((v1 * (Int16.ofInt 3001).toInt32) + (aI hp 97 ((v1 * (Int16.ofInt 8192).toInt32) + v8).toNatClampNeg)).toNatClampNeg ((aL hp 95 ((v1 * (Int16.ofInt 3001).toInt32) + (aI hp 97 ((v1 * (Int16.ofInt 8192).toInt32) + v8).toNatClampNeg)).toNatClampNeg) + v2)) := oS_uL (cs := [95]) (t := 52) (n := 9003) rfl List.mem_cons_self hS
          generalize (uL hp 95 ((v1 * (Int16.ofInt 3001).toInt32) + (aI hp 97 ((v1 * (Int16.ofInt 8192).toInt32) + v8).toNatClampNeg)).toNatClampNeg ((aL hp 95 ((v1 * (Int16.ofInt 3001).toInt32) + (aI hp 97 ((v1 * (Int16.ofInt 8192).toInt32) + v8).toNatClampNeg)).toNatClampNeg) + v2)) = h47 at h hS48 ⊢
          refine py_its (pc := 95) (pc1 := 96) (lv1 := lv35) (st1 := [.int (Int32.ofInt 1)]) 1 (fun _ _ _ _ => rfl) ?_
          have h := Option.some.inj h
          subst h
          exact py_ir (pc := 96) (len := 1) (ty := .boolean) rfl rfl (by decide) hS48
noncomputable def fn_M_adds (a1 : Int32) (a2 : Int64) (hp : px_H) : Option (Int32 × px_H) :=
  (fn_M_first hp).bind fun q1 =>
  (fn_M_second hp).bind fun q4 =>
  (fn_M_placeOf q1 q4 hp).bind fun q7 =>
  fn_M_adds_L21 a1 a2 q1 q4 fu q7 hp
theorem fx_M_adds {a1 : Int32} {a2 : Int64} {hp : px_H} {res : Int32 × px_H} (hS : oS hp) (h : fn_M_adds a1 a2 hp = some res) : px_C nm_T nm_P mi_M_adds [.ref 69, .int a1, .long a2] hp (some (.int res.1)) res.2 ∧ oS res.2 := by
  unfold fn_M_adds at h
  refine py_C (M := mm_M_adds) rfl (Nat.le_of_ble_eq_true rfl) ?_
  show px_Y mm_M_adds 0 [(0, .ref 69), (1, .int a1), (2, .long a2)] [] hp _ _
  refine py_its (pc := 0) (pc1 := 1) (lv1 := [(0, .ref 69), (1, .int a1), (2, .long a2)]) (st1 := [.ref 69]) 1 (fun _ _ _ _ => rfl) ?_
  obtain ⟨q1, hq2, h⟩ := bd_e h
  have hC3 := (fx_M_first hS hq2).1
  refine py_vi (pc := 1) (mi := mi_M_first) (cs := [69]) (N := mm_M_first) rfl rfl rfl rfl List.mem_cons_self hS rfl (Nat.le_of_ble_eq_true rfl) (Nat.le_of_ble_eq_true rfl) rfl rfl hC3 ?_
  show px_Y mm_M_adds 4 [(0, .ref 69), (1, .int a1), (2, .long a2)] [.long q1] hp _ _
  refine py_its (pc := 4) (pc1 := 7) (lv1 := [(4, .long q1), (0, .ref 69), (1, .int a1), (2, .long a2)]) (st1 := [.ref 69]) 2 (fun _ _ _ _ => rfl) ?_
  obtain ⟨q4, hq5, h⟩ := bd_e h
  have hC6 := (fx_M_second hS hq5).1
  refine py_vi (pc := 7) (mi := mi_M_second) (cs := [69]) (N := mm_M_second) rfl rfl rfl rfl List.mem_cons_self hS rfl (Nat.le_of_ble_eq_true rfl) (Nat.le_of_ble_eq_true rfl) rfl rfl hC6 ?_
  show px_Y mm_M_adds 10 [(4, .long q1), (0, .ref 69), (1, .int a1), (2, .long a2)] [.long q4] hp _ _
  refine py_its (pc := 10) (pc1 := 16) (lv1 := [(6, .long q4), (4, .long q1), (0, .ref 69), (1, .int a1), (2, .long a2)]) (st1 := [.long q4, .long q1]) 3 (fun _ _ _ _ => rfl) ?_
  obtain ⟨q7, hq8, h⟩ := bd_e h
  have hC9 := (fx_M_placeOf hS hq8).1
  refine py_st (pc := 16) (mi := mi_M_placeOf) (N := mm_M_placeOf) rfl rfl rfl (Nat.le_of_ble_eq_true rfl) (Nat.le_of_ble_eq_true rfl) rfl rfl hC9 ?_
  show px_Y mm_M_adds 19 [(6, .long q4), (4, .long q1), (0, .ref 69), (1, .int a1), (2, .long a2)] [.int q7] hp _ _
  refine py_its (pc := 19) (pc1 := 21) (lv1 := [(8, .int q7), (6, .long q4), (4, .long q1), (0, .ref 69), (1, .int a1), (2, .long a2)]) (st1 := []) 1 (fun _ _ _ _ => rfl) ?_
  exact fl_M_adds_L21 fu q7 hp [(8, .int q7), (6, .long q4), (4, .long q1), (0, .ref 69), (1, .int a1), (2, .long a2)] _ hS ⟨rfl, rfl, rfl, rfl, rfl, rfl, trivial⟩ h
/-! M_looksAt -/
noncomputable def fn_M_looksAt (a1 : Int32) (a2 : Int32) (hp : px_H) : Option (px_H) :=
  bif px_inR ((a1 * (Int16.ofInt 3001).toInt32) + a2) 9003 then
  bif px_inR ((a1 * (Int16.ofInt 3001).toInt32) + a2) 9003 then
  (fn_M_unpacks (aL hp 93 ((a1 * (Int16.ofInt 3001).toInt32) + a2).toNatClampNeg) (aL hp 94 ((a1 * (Int16.ofInt 3001).toInt32) + a2).toNatClampNeg) hp).bind fun q3 =>
  some q3
  else none
  else none
theorem fx_M_looksAt {a1 : Int32} {a2 : Int32} {hp : px_H} {res : px_H} (hS : oS hp) (h : fn_M_looksAt a1 a2 hp = some res) : px_C nm_T nm_P mi_M_looksAt [.ref 69, .int a1, .int a2] hp none res ∧ oS res := by
  unfold fn_M_looksAt at h
  refine py_C (M := mm_M_looksAt) rfl (Nat.le_of_ble_eq_true rfl) ?_
  show px_Y mm_M_looksAt 0 [(0, .ref 69), (1, .int a1), (2, .int a2)] [] hp _ _
  refine py_its (pc := 0) (pc1 := 2) (lv1 := [(0, .ref 69), (1, .int a1), (2, .int a2)]) (st1 := [.ref 69, .ref 69]) 2 (fun _ _ _ _ => rfl) ?_
  refine py_g1 93 (pc := 2) (len := 3) (cs := [69]) rfl rfl rfl List.mem_cons_self hS ?_
  refine py_its (pc := 5) (pc1 := 12) (lv1 := [(0, .ref 69), (1, .int a1), (2, .int a2)]) (st1 := [.int ((a1 * (Int16.ofInt 3001).toInt32) + a2), .ref 93, .ref 69]) 5 (fun _ _ _ _ => rfl) ?_
  obtain ⟨hi1, h⟩ := cd_n h
  refine py_al (pc := 12) (len := 1) (cs := [93]) (t := 50) (n := 9003) rfl rfl rfl hi1 List.mem_cons_self hS ?_
  refine py_its (pc := 13) (pc1 := 14) (lv1 := [(0, .ref 69), (1, .int a1), (2, .int a2)]) (st1 := [.ref 69, .long (aL hp 93 ((a1 * (Int16.ofInt 3001).toInt32) + a2).toNatClampNeg), .ref 69]) 1 (fun _ _ _ _ => rfl) ?_
  refine py_g1 94 (pc := 14) (len := 3) (cs := [69]) rfl rfl rfl List.mem_cons_self hS ?_
  refine py_its (pc := 17) (pc1 := 24) (lv1 := [(0, .ref 69), (1, .int a1), (2, .int a2)]) (st1 := [.int ((a1 * (Int16.ofInt 3001).toInt32) + a2), .ref 94, .long (aL hp 93 ((a1 * (Int16.ofInt 3001).toInt32) + a2).toNatClampNeg), .ref 69]) 5 (fun _ _ _ _ => rfl) ?_
  obtain ⟨hi2, h⟩ := cd_n h
  refine py_al (pc := 24) (len := 1) (cs := [94]) (t := 51) (n := 9003) rfl rfl rfl hi2 List.mem_cons_self hS ?_
  obtain ⟨q3, hq4, h⟩ := bd_e h
  obtain ⟨hC5, hS6⟩ := fx_M_unpacks hS hq4
  refine py_vi (pc := 25) (mi := mi_M_unpacks) (cs := [69]) (N := mm_M_unpacks) rfl rfl rfl rfl List.mem_cons_self hS rfl (Nat.le_of_ble_eq_true rfl) (Nat.le_of_ble_eq_true rfl) rfl rfl hC5 ?_
  show px_Y mm_M_looksAt 28 [(0, .ref 69), (1, .int a1), (2, .int a2)] [] q3 _ _
  have h := Option.some.inj h
  subst h
  exact py_rt (pc := 28) (len := 1) rfl rfl hS6
/-! M_opensAll -/
noncomputable def fb_M_opensAll_L7 (v1 : Int32) (rc : Int32 → px_H → Option (px_H)) (v2 : Int32) (hp : px_H) : Option (px_H) :=
  bif px_cmp .ge v2 (aI hp 96 (Int32.ofInt 2).toNatClampNeg) then
    some hp
  else
    (fn_M_looksAt (Int32.ofInt 2) v2 hp).bind fun q6 =>
    (fn_M_opens v1 q6).bind fun q10 =>
    bif px_inR ((Int16.ofInt 6002).toInt32 + v2) 9003 then
    (fn_M_adds (Int32.ofInt 0) (aL q10 95 ((Int16.ofInt 6002).toInt32 + v2).toNatClampNeg) q10).bind fun q15 =>
    rc (v2 + Int32.ofInt 1) q15.2
    else none
noncomputable def fn_M_opensAll_L7 (v1 : Int32) : Nat → Int32 → px_H → Option (px_H)
  | 0 => fun _ _ => none
  | n + 1 => fb_M_opensAll_L7 v1 (fn_M_opensAll_L7 v1 n)
theorem fl_M_opensAll_L7 {v1 : Int32}  : ∀ (n : Nat) (v2 : Int32) (hp : px_H) (lv : List (Nat × Value)) (res : px_H), oS hp → lk lv [(0, .ref 69), (1, .int v1), (2, .int v2)] → fn_M_opensAll_L7 v1 n v2 hp = some res → px_Y mm_M_opensAll 7 lv [] hp none res := by
  intro n
  induction n with
  | zero =>
    intro v2 hp lv res hS hk h
    cases h
  | succ n ih =>
    intro v2 hp lv res hS hk h
    have h : fb_M_opensAll_L7 v1 (fn_M_opensAll_L7 v1 n) v2 hp = some res := h
    unfold fb_M_opensAll_L7 at h
    refine py_iln (pc := 7) (len := 1) (j := 2) rfl hk rfl ?_
    refine py_aln (pc := 8) (len := 1) (j := 0) rfl hk rfl ?_
    refine py_g1 96 (pc := 9) (len := 3) (cs := [69]) rfl rfl rfl List.mem_cons_self hS ?_
    refine py_its (pc := 12) (pc1 := 13) (lv1 := lv) (st1 := [.int (Int32.ofInt 2), .ref 96, .int v2]) 1 (fun _ _ _ _ => rfl) ?_
    refine py_ai (pc := 13) (len := 1) (cs := [96]) (t := 53) (n := 3) rfl rfl rfl rfl List.mem_cons_self hS ?_
    cases hb5 : px_cmp .ge v2 (aI hp 96 (Int32.ofInt 2).toNatClampNeg) with
    | true =>
      have h := cd_t hb5 h
      refine py_ic (pc := 14) (len := 3) true rfl hb5 ?_
      have h := Option.some.inj h
      subst h
      exact py_rt (pc := 50) (len := 1) rfl rfl hS
    | false =>
      have h := cd_f hb5 h
      refine py_ic (pc := 14) (len := 3) false rfl hb5 ?_
      refine py_aln (pc := 17) (len := 1) (j := 0) rfl hk rfl ?_
      refine py_its (pc := 18) (pc1 := 19) (lv1 := lv) (st1 := [.int (Int32.ofInt 2), .ref 69]) 1 (fun _ _ _ _ => rfl) ?_
      refine py_iln (pc := 19) (len := 1) (j := 2) rfl hk rfl ?_
      obtain ⟨q6, hq7, h⟩ := bd_e h
      obtain ⟨hC8, hS9⟩ := fx_M_looksAt hS hq7
      refine py_vi (pc := 20) (mi := mi_M_looksAt) (cs := [69]) (N := mm_M_looksAt) rfl rfl rfl rfl List.mem_cons_self hS rfl (Nat.le_of_ble_eq_true rfl) (Nat.le_of_ble_eq_true rfl) rfl rfl hC8 ?_
      show px_Y mm_M_opensAll 23 lv [] q6 _ _
      refine py_aln (pc := 23) (len := 1) (j := 0) rfl hk rfl ?_
      refine py_iln (pc := 24) (len := 1) (j := 1) rfl hk rfl ?_
      obtain ⟨q10, hq11, h⟩ := bd_e h
      obtain ⟨hC12, hS13⟩ := fx_M_opens hS9 hq11
      refine py_vi (pc := 25) (mi := mi_M_opens) (cs := [69]) (N := mm_M_opens) rfl rfl rfl rfl List.mem_cons_self hS9 rfl (Nat.le_of_ble_eq_true rfl) (Nat.le_of_ble_eq_true rfl) rfl rfl hC12 ?_
      show px_Y mm_M_opensAll 28 lv [] q10 _ _
      refine py_aln (pc := 28) (len := 1) (j := 0) rfl hk rfl ?_
      refine py_its (pc := 29) (pc1 := 30) (lv1 := lv) (st1 := [.int (Int32.ofInt 0), .ref 69]) 1 (fun _ _ _ _ => rfl) ?_
      refine py_aln (pc := 30) (len := 1) (j := 0) rfl hk rfl ?_
      refine py_g1 95 (pc := 31) (len := 3) (cs := [69]) rfl rfl rfl List.mem_cons_self hS13 ?_
      refine py_its (pc := 34) (pc1 := 37) (lv1 := lv) (st1 := [.int (Int16.ofInt 6002).toInt32, .ref 95, .int (Int32.ofInt 0), .ref 69]) 1 (fun _ _ _ _ => rfl) ?_
      refine py_iln (pc := 37) (len := 1) (j := 2) rfl hk rfl ?_
      refine py_its (pc := 38) (pc1 := 39) (lv1 := lv) (st1 := [.int ((Int16.ofInt 6002).toInt32 + v2), .ref 95, .int (Int32.ofInt 0), .ref 69]) 1 (fun _ _ _ _ => rfl) ?_
      obtain ⟨hi14, h⟩ := cd_n h
      refine py_al (pc := 39) (len := 1) (cs := [95]) (t := 52) (n := 9003) rfl rfl rfl hi14 List.mem_cons_self hS13 ?_
      obtain ⟨q15, hq16, h⟩ := bd_e h
      obtain ⟨hC17, hS18⟩ := fx_M_adds hS13 hq16
      refine py_vi (pc := 40) (mi := mi_M_adds) (cs := [69]) (N := mm_M_adds) rfl rfl rfl rfl List.mem_cons_self hS13 rfl (Nat.le_of_ble_eq_true rfl) (Nat.le_of_ble_eq_true rfl) rfl rfl hC17 ?_
      show px_Y mm_M_opensAll 43 lv [.int q15.1] q15.2 _ _
      refine py_its (pc := 43) (pc1 := 44) (lv1 := lv) (st1 := []) 1 (fun _ _ _ _ => rfl) ?_
      refine py_inc (pc := 44) (len := 3) (j := 2) (n := 1) rfl rfl hk rfl (fun lv19 hk20 => ?_)
      have hk20 : lk lv19 [(2, .int (v2 + Int32.ofInt 1)), (0, .ref 69), (1, .int v1)] := hk20
      refine py_its (pc := 47) (pc1 := 7) (lv1 := lv19) (st1 := []) 1 (fun _ _ _ _ => rfl) ?_
      exact ih (v2 + Int32.ofInt 1) q15.2 lv19 _ hS18 ⟨lk_find hk20 rfl, lk_find hk20 rfl, lk_find hk20 rfl, trivial⟩ h
noncomputable def fn_M_opensAll (a1 : Int32) (hp : px_H) : Option (px_H) :=
  (fn_M_empties (Int32.ofInt 0) hp).bind fun q1 =>
  fn_M_opensAll_L7 a1 fu (Int32.ofInt 0) q1
theorem fx_M_opensAll {a1 : Int32} {hp : px_H} {res : px_H} (hS : oS hp) (h : fn_M_opensAll a1 hp = some res) : px_C nm_T nm_P mi_M_opensAll [.ref 69, .int a1] hp none res ∧ oS res := by
  unfold fn_M_opensAll at h
  refine py_C (M := mm_M_opensAll) rfl (Nat.le_of_ble_eq_true rfl) ?_
  show px_Y mm_M_opensAll 0 [(0, .ref 69), (1, .int a1)] [] hp _ _
  refine py_its (pc := 0) (pc1 := 2) (lv1 := [(0, .ref 69), (1, .int a1)]) (st1 := [.int (Int32.ofInt 0), .ref 69]) 2 (fun _ _ _ _ => rfl) ?_
  obtain ⟨q1, hq2, h⟩ := bd_e h
  obtain ⟨hC3, hS4⟩ := fx_M_empties hS hq2
  refine py_vi (pc := 2) (mi := mi_M_empties) (cs := [69]) (N := mm_M_empties) rfl rfl rfl rfl List.mem_cons_self hS rfl (Nat.le_of_ble_eq_true rfl) (Nat.le_of_ble_eq_true rfl) rfl rfl hC3 ?_
  show px_Y mm_M_opensAll 5 [(0, .ref 69), (1, .int a1)] [] q1 _ _
  refine py_its (pc := 5) (pc1 := 7) (lv1 := [(2, .int (Int32.ofInt 0)), (0, .ref 69), (1, .int a1)]) (st1 := []) 2 (fun _ _ _ _ => rfl) ?_
  exact fl_M_opensAll_L7 fu (Int32.ofInt 0) q1 [(2, .int (Int32.ofInt 0)), (0, .ref 69), (1, .int a1)] _ hS4 ⟨rfl, rfl, rfl, trivial⟩ h
/-! M_parts -/
noncomputable def fb_M_parts_L12 (v1 : Int32) (v2 : Int32) (rc : Int32 → px_H → Option (Int32 × px_H)) (v3 : Int32) (hp : px_H) : Option (Int32 × px_H) :=
  bif px_inR v1 3 then
  bif px_cmp .ge v3 (aI hp 96 v1.toNatClampNeg) then
    some ((Int32.ofInt 1), hp)
  else
    (fn_M_looksAt v1 v3 hp).bind fun q8 =>
    (fn_M_isOver v2 q8).bind fun q12 =>
    bif px_cmp .eq q12 0 then
      bif px_cmp .ne v1 (Int32.ofInt 1) then
        rc (v3 + Int32.ofInt 1) q8
      else
        bif px_inR ((v1 * (Int16.ofInt 3001).toInt32) + v3) 9003 then
        (fn_M_adds (Int32.ofInt 0) (aL q8 95 ((v1 * (Int16.ofInt 3001).toInt32) + v3).toNatClampNeg) q8).bind fun q20 =>
        rc (v3 + Int32.ofInt 1) q20.2
        else none
    else
      (fn_M_closes v2 q8).bind fun q26 =>
      bif px_inR ((v1 * (Int16.ofInt 3001).toInt32) + v3) 9003 then
      (fn_M_adds (Int32.ofInt 2) (aL q26 95 ((v1 * (Int16.ofInt 3001).toInt32) + v3).toNatClampNeg) q26).bind fun q31 =>
      bif px_cmp .ne q31.1 0 then
        rc (v3 + Int32.ofInt 1) q31.2
      else
        some ((Int32.ofInt 0), q31.2)
      else none
  else none
noncomputable def fn_M_parts_L12 (v1 : Int32) (v2 : Int32) : Nat → Int32 → px_H → Option (Int32 × px_H)
  | 0 => fun _ _ => none
  | n + 1 => fb_M_parts_L12 v1 v2 (fn_M_parts_L12 v1 v2 n)
theorem fl_M_parts_L12 {v1 : Int32} {v2 : Int32}  : ∀ (n : Nat) (v3 : Int32) (hp : px_H) (lv : List (Nat × Value)) (res : Int32 × px_H), oS hp → lk lv [(0, .ref 69), (1, .int v1), (2, .int v2), (3, .int v3)] → fn_M_parts_L12 v1 v2 n v3 hp = some res → px_Y mm_M_parts 12 lv [] hp (some (.int res.1)) res.2 := by
  intro n
  induction n with
  | zero =>
    intro v3 hp lv res hS hk h
    cases h
  | succ n ih =>
    intro v3 hp lv res hS hk h
    have h : fb_M_parts_L12 v1 v2 (fn_M_parts_L12 v1 v2 n) v3 hp = some res := h
    unfold fb_M_parts_L12 at h
    refine py_iln (pc := 12) (len := 1) (j := 3) rfl hk rfl ?_
    refine py_aln (pc := 13) (len := 1) (j := 0) rfl hk rfl ?_
    refine py_g1 96 (pc := 14) (len := 3) (cs := [69]) rfl rfl rfl List.mem_cons_self hS ?_
    refine py_iln (pc := 17) (len := 1) (j := 1) rfl hk rfl ?_
    obtain ⟨hi6, h⟩ := cd_n h
    refine py_ai (pc := 18) (len := 1) (cs := [96]) (t := 53) (n := 3) rfl rfl rfl hi6 List.mem_cons_self hS ?_
    cases hb7 : px_cmp .ge v3 (aI hp 96 v1.toNatClampNeg) with
    | true =>
      have h := cd_t hb7 h
      refine py_ic (pc := 19) (len := 3) true rfl hb7 ?_
      refine py_its (pc := 92) (pc1 := 93) (lv1 := lv) (st1 := [.int (Int32.ofInt 1)]) 1 (fun _ _ _ _ => rfl) ?_
      have h := Option.some.inj h
      subst h
      exact py_ir (pc := 93) (len := 1) (ty := .boolean) rfl rfl (by decide) hS
    | false =>
      have h := cd_f hb7 h
      refine py_ic (pc := 19) (len := 3) false rfl hb7 ?_
      refine py_aln (pc := 22) (len := 1) (j := 0) rfl hk rfl ?_
      refine py_iln (pc := 23) (len := 1) (j := 1) rfl hk rfl ?_
      refine py_iln (pc := 24) (len := 1) (j := 3) rfl hk rfl ?_
      obtain ⟨q8, hq9, h⟩ := bd_e h
      obtain ⟨hC10, hS11⟩ := fx_M_looksAt hS hq9
      refine py_vi (pc := 25) (mi := mi_M_looksAt) (cs := [69]) (N := mm_M_looksAt) rfl rfl rfl rfl List.mem_cons_self hS rfl (Nat.le_of_ble_eq_true rfl) (Nat.le_of_ble_eq_true rfl) rfl rfl hC10 ?_
      show px_Y mm_M_parts 28 lv [] q8 _ _
      refine py_aln (pc := 28) (len := 1) (j := 0) rfl hk rfl ?_
      refine py_iln (pc := 29) (len := 1) (j := 2) rfl hk rfl ?_
      obtain ⟨q12, hq13, h⟩ := bd_e h
      have hC14 := (fx_M_isOver hS11 hq13).1
      refine py_vi (pc := 30) (mi := mi_M_isOver) (cs := [69]) (N := mm_M_isOver) rfl rfl rfl rfl List.mem_cons_self hS11 rfl (Nat.le_of_ble_eq_true rfl) (Nat.le_of_ble_eq_true rfl) rfl rfl hC14 ?_
      show px_Y mm_M_parts 33 lv [.int q12] q8 _ _
      cases hb15 : px_cmp .eq q12 0 with
      | true =>
        have h := cd_t hb15 h
        refine py_if (pc := 33) (len := 3) true rfl hb15 ?_
        refine py_iln (pc := 63) (len := 1) (j := 1) rfl hk rfl ?_
        refine py_its (pc := 64) (pc1 := 65) (lv1 := lv) (st1 := [.int (Int32.ofInt 1), .int v1]) 1 (fun _ _ _ _ => rfl) ?_
        cases hb16 : px_cmp .ne v1 (Int32.ofInt 1) with
        | true =>
          have h := cd_t hb16 h
          refine py_ic (pc := 65) (len := 3) true rfl hb16 ?_
          refine py_inc (pc := 86) (len := 3) (j := 3) (n := 1) rfl rfl hk rfl (fun lv17 hk18 => ?_)
          have hk18 : lk lv17 [(3, .int (v3 + Int32.ofInt 1)), (0, .ref 69), (1, .int v1), (2, .int v2)] := hk18
          refine py_its (pc := 89) (pc1 := 12) (lv1 := lv17) (st1 := []) 1 (fun _ _ _ _ => rfl) ?_
          exact ih (v3 + Int32.ofInt 1) q8 lv17 _ hS11 ⟨lk_find hk18 rfl, lk_find hk18 rfl, lk_find hk18 rfl, lk_find hk18 rfl, trivial⟩ h
        | false =>
          have h := cd_f hb16 h
          refine py_ic (pc := 65) (len := 3) false rfl hb16 ?_
          refine py_aln (pc := 68) (len := 1) (j := 0) rfl hk rfl ?_
          refine py_its (pc := 69) (pc1 := 70) (lv1 := lv) (st1 := [.int (Int32.ofInt 0), .ref 69]) 1 (fun _ _ _ _ => rfl) ?_
          refine py_aln (pc := 70) (len := 1) (j := 0) rfl hk rfl ?_
          refine py_g1 95 (pc := 71) (len := 3) (cs := [69]) rfl rfl rfl List.mem_cons_self hS11 ?_
          refine py_iln (pc := 74) (len := 1) (j := 1) rfl hk rfl ?_
          refine py_its (pc := 75) (pc1 := 79) (lv1 := lv) (st1 := [.int (v1 * (Int16.ofInt 3001).toInt32), .ref 95, .int (Int32.ofInt 0), .ref 69]) 2 (fun _ _ _ _ => rfl) ?_
          refine py_iln (pc := 79) (len := 1) (j := 3) rfl hk rfl ?_
          refine py_its (pc := 80) (pc1 := 81) (lv1 := lv) (st1 := [.int ((v1 * (Int16.ofInt 3001).toInt32) + v3), .ref 95, .int (Int32.ofInt 0), .ref 69]) 1 (fun _ _ _ _ => rfl) ?_
          obtain ⟨hi19, h⟩ := cd_n h
          refine py_al (pc := 81) (len := 1) (cs := [95]) (t := 52) (n := 9003) rfl rfl rfl hi19 List.mem_cons_self hS11 ?_
          obtain ⟨q20, hq21, h⟩ := bd_e h
          obtain ⟨hC22, hS23⟩ := fx_M_adds hS11 hq21
          refine py_vi (pc := 82) (mi := mi_M_adds) (cs := [69]) (N := mm_M_adds) rfl rfl rfl rfl List.mem_cons_self hS11 rfl (Nat.le_of_ble_eq_true rfl) (Nat.le_of_ble_eq_true rfl) rfl rfl hC22 ?_
          show px_Y mm_M_parts 85 lv [.int q20.1] q20.2 _ _
          refine py_its (pc := 85) (pc1 := 86) (lv1 := lv) (st1 := []) 1 (fun _ _ _ _ => rfl) ?_
          refine py_inc (pc := 86) (len := 3) (j := 3) (n := 1) rfl rfl hk rfl (fun lv24 hk25 => ?_)
          have hk25 : lk lv24 [(3, .int (v3 + Int32.ofInt 1)), (0, .ref 69), (1, .int v1), (2, .int v2)] := hk25
          refine py_its (pc := 89) (pc1 := 12) (lv1 := lv24) (st1 := []) 1 (fun _ _ _ _ => rfl) ?_
          exact ih (v3 + Int32.ofInt 1) q20.2 lv24 _ hS23 ⟨lk_find hk25 rfl, lk_find hk25 rfl, lk_find hk25 rfl, lk_find hk25 rfl, trivial⟩ h
      | false =>
        have h := cd_f hb15 h
        refine py_if (pc := 33) (len := 3) false rfl hb15 ?_
        refine py_aln (pc := 36) (len := 1) (j := 0) rfl hk rfl ?_
        refine py_iln (pc := 37) (len := 1) (j := 2) rfl hk rfl ?_
        obtain ⟨q26, hq27, h⟩ := bd_e h
        obtain ⟨hC28, hS29⟩ := fx_M_closes hS11 hq27
        refine py_vi (pc := 38) (mi := mi_M_closes) (cs := [69]) (N := mm_M_closes) rfl rfl rfl rfl List.mem_cons_self hS11 rfl (Nat.le_of_ble_eq_true rfl) (Nat.le_of_ble_eq_true rfl) rfl rfl hC28 ?_
        show px_Y mm_M_parts 41 lv [] q26 _ _
        refine py_aln (pc := 41) (len := 1) (j := 0) rfl hk rfl ?_
        refine py_its (pc := 42) (pc1 := 43) (lv1 := lv) (st1 := [.int (Int32.ofInt 2), .ref 69]) 1 (fun _ _ _ _ => rfl) ?_
        refine py_aln (pc := 43) (len := 1) (j := 0) rfl hk rfl ?_
        refine py_g1 95 (pc := 44) (len := 3) (cs := [69]) rfl rfl rfl List.mem_cons_self hS29 ?_
        refine py_iln (pc := 47) (len := 1) (j := 1) rfl hk rfl ?_
        refine py_its (pc := 48) (pc1 := 52) (lv1 := lv) (st1 := [.int (v1 * (Int16.ofInt 3001).toInt32), .ref 95, .int (Int32.ofInt 2), .ref 69]) 2 (fun _ _ _ _ => rfl) ?_
        refine py_iln (pc := 52) (len := 1) (j := 3) rfl hk rfl ?_
        refine py_its (pc := 53) (pc1 := 54) (lv1 := lv) (st1 := [.int ((v1 * (Int16.ofInt 3001).toInt32) + v3), .ref 95, .int (Int32.ofInt 2), .ref 69]) 1 (fun _ _ _ _ => rfl) ?_
        obtain ⟨hi30, h⟩ := cd_n h
        refine py_al (pc := 54) (len := 1) (cs := [95]) (t := 52) (n := 9003) rfl rfl rfl hi30 List.mem_cons_self hS29 ?_
        obtain ⟨q31, hq32, h⟩ := bd_e h
        obtain ⟨hC33, hS34⟩ := fx_M_adds hS29 hq32
        refine py_vi (pc := 55) (mi := mi_M_adds) (cs := [69]) (N := mm_M_adds) rfl rfl rfl rfl List.mem_cons_self hS29 rfl (Nat.le_of_ble_eq_true rfl) (Nat.le_of_ble_eq_true rfl) rfl rfl hC33 ?_
        show px_Y mm_M_parts 58 lv [.int q31.1] q31.2 _ _
        cases hb35 : px_cmp .ne q31.1 0 with
        | true =>
          have h := cd_t hb35 h
          refine py_if (pc := 58) (len := 3) true rfl hb35 ?_
          refine py_inc (pc := 86) (len := 3) (j := 3) (n := 1) rfl rfl hk rfl (fun lv36 hk37 => ?_)
          have hk37 : lk lv36 [(3, .int (v3 + Int32.ofInt 1)), (0, .ref 69), (1, .int v1), (2, .int v2)] := hk37
          refine py_its (pc := 89) (pc1 := 12) (lv1 := lv36) (st1 := []) 1 (fun _ _ _ _ => rfl) ?_
          exact ih (v3 + Int32.ofInt 1) q31.2 lv36 _ hS34 ⟨lk_find hk37 rfl, lk_find hk37 rfl, lk_find hk37 rfl, lk_find hk37 rfl, trivial⟩ h
        | false =>
          have h := cd_f hb35 h
          refine py_if (pc := 58) (len := 3) false rfl hb35 ?_
          refine py_its (pc := 61) (pc1 := 62) (lv1 := lv) (st1 := [.int (Int32.ofInt 0)]) 1 (fun _ _ _ _ => rfl) ?_
          have h := Option.some.inj h
          subst h
          exact py_ir (pc := 62) (len := 1) (ty := .boolean) rfl rfl (by decide) hS34
noncomputable def fn_M_parts (a1 : Int32) (a2 : Int32) (hp : px_H) : Option (Int32 × px_H) :=
  bif px_cmp .ne a1 (Int32.ofInt 1) then
    fn_M_parts_L12 a1 a2 fu (Int32.ofInt 0) hp
  else
    (fn_M_empties (Int32.ofInt 0) hp).bind fun q2 =>
    fn_M_parts_L12 a1 a2 fu (Int32.ofInt 0) q2
theorem fx_M_parts {a1 : Int32} {a2 : Int32} {hp : px_H} {res : Int32 × px_H} (hS : oS hp) (h : fn_M_parts a1 a2 hp = some res) : px_C nm_T nm_P mi_M_parts [.ref 69, .int a1, .int a2] hp (some (.int res.1)) res.2 ∧ oS res.2 := by
  unfold fn_M_parts at h
  refine py_C (M := mm_M_parts) rfl (Nat.le_of_ble_eq_true rfl) ?_
  show px_Y mm_M_parts 0 [(0, .ref 69), (1, .int a1), (2, .int a2)] [] hp _ _
  refine py_its (pc := 0) (pc1 := 2) (lv1 := [(0, .ref 69), (1, .int a1), (2, .int a2)]) (st1 := [.int (Int32.ofInt 1), .int a1]) 2 (fun _ _ _ _ => rfl) ?_
  cases hb1 : px_cmp .ne a1 (Int32.ofInt 1) with
  | true =>
    have h := cd_t hb1 h
    refine py_ic (pc := 2) (len := 3) true rfl hb1 ?_
    refine py_its (pc := 10) (pc1 := 12) (lv1 := [(3, .int (Int32.ofInt 0)), (0, .ref 69), (1, .int a1), (2, .int a2)]) (st1 := []) 2 (fun _ _ _ _ => rfl) ?_
    exact fl_M_parts_L12 fu (Int32.ofInt 0) hp [(3, .int (Int32.ofInt 0)), (0, .ref 69), (1, .int a1), (2, .int a2)] _ hS ⟨rfl, rfl, rfl, rfl, trivial⟩ h
  | false =>
    have h := cd_f hb1 h
    refine py_ic (pc := 2) (len := 3) false rfl hb1 ?_
    refine py_its (pc := 5) (pc1 := 7) (lv1 := [(0, .ref 69), (1, .int a1), (2, .int a2)]) (st1 := [.int (Int32.ofInt 0), .ref 69]) 2 (fun _ _ _ _ => rfl) ?_
    obtain ⟨q2, hq3, h⟩ := bd_e h
    obtain ⟨hC4, hS5⟩ := fx_M_empties hS hq3
    refine py_vi (pc := 7) (mi := mi_M_empties) (cs := [69]) (N := mm_M_empties) rfl rfl rfl rfl List.mem_cons_self hS rfl (Nat.le_of_ble_eq_true rfl) (Nat.le_of_ble_eq_true rfl) rfl rfl hC4 ?_
    show px_Y mm_M_parts 10 [(0, .ref 69), (1, .int a1), (2, .int a2)] [] q2 _ _
    refine py_its (pc := 10) (pc1 := 12) (lv1 := [(3, .int (Int32.ofInt 0)), (0, .ref 69), (1, .int a1), (2, .int a2)]) (st1 := []) 2 (fun _ _ _ _ => rfl) ?_
    exact fl_M_parts_L12 fu (Int32.ofInt 0) q2 [(3, .int (Int32.ofInt 0)), (0, .ref 69), (1, .int a1), (2, .int a2)] _ hS5 ⟨rfl, rfl, rfl, rfl, trivial⟩ h
/-! M_drawsFrom -/
noncomputable def fb_M_drawsFrom_L48 (v1 : Int32) (v2 : Int32) (v3 : Int32) (v4 : Int32) (v5 : Int64) (rc : Int32 → px_H → Option (Int32 × px_H)) (v7 : Int32) (hp : px_H) : Option (Int32 × px_H) :=
  bif px_cmp .ge v7 (gI hp 69 3) then
    some ((Int32.ofInt 1), hp)
  else
    bif px_cmp .ne (sx_has v3 v7) 0 then
      (fn_M_looksAt (Int32.ofInt 0) v1 hp).bind fun q12 =>
      (fn_M_takes v2 v7 q12).bind fun q16 =>
      bif px_cmp .eq q16.1 0 then
        bif decide (v4.toInt64 = 0) then none else
        sb (wF q16.2 69 46 (.long ((gL q12 69 46) + (v5 / v4.toInt64)))) fun h22 =>
        bif decide (v4.toInt64 = 0) then none else
        (fn_M_adds (Int32.ofInt 1) (v5 / v4.toInt64) h22).bind fun q25 =>
        bif px_cmp .ne q25.1 0 then
          rc (v7 + Int32.ofInt 1) q25.2
        else
          some ((Int32.ofInt 0), q25.2)
      else
        sb (wF q16.2 69 46 (.long ((gL q12 69 46) + (Int64.ofNat 0)))) fun h32 =>
        bif decide (v4.toInt64 = 0) then none else
        (fn_M_adds (Int32.ofInt 1) (v5 / v4.toInt64) h32).bind fun q35 =>
        bif px_cmp .ne q35.1 0 then
          rc (v7 + Int32.ofInt 1) q35.2
        else
          some ((Int32.ofInt 0), q35.2)
    else
      rc (v7 + Int32.ofInt 1) hp
noncomputable def fn_M_drawsFrom_L48 (v1 : Int32) (v2 : Int32) (v3 : Int32) (v4 : Int32) (v5 : Int64) : Nat → Int32 → px_H → Option (Int32 × px_H)
  | 0 => fun _ _ => none
  | n + 1 => fb_M_drawsFrom_L48 v1 v2 v3 v4 v5 (fn_M_drawsFrom_L48 v1 v2 v3 v4 v5 n)
theorem fl_M_drawsFrom_L48 {v1 : Int32} {v2 : Int32} {v3 : Int32} {v4 : Int32} {v5 : Int64}  : ∀ (n : Nat) (v7 : Int32) (hp : px_H) (lv : List (Nat × Value)) (res : Int32 × px_H), oS hp → lk lv [(0, .ref 69), (1, .int v1), (2, .int v2), (3, .int v3), (4, .int v4), (5, .long v5), (7, .int v7)] → fn_M_drawsFrom_L48 v1 v2 v3 v4 v5 n v7 hp = some res → px_Y mm_M_drawsFrom 48 lv [] hp (some (.int res.1)) res.2 := by
  intro n
  induction n with
  | zero =>
    intro v7 hp lv res hS hk h
    cases h
  | succ n ih =>
    intro v7 hp lv res hS hk h
    have h : fb_M_drawsFrom_L48 v1 v2 v3 v4 v5 (fn_M_drawsFrom_L48 v1 v2 v3 v4 v5 n) v7 hp = some res := h
    unfold fb_M_drawsFrom_L48 at h
    refine py_il (pc := 48) (len := 2) (j := 7) rfl hk rfl ?_
    refine py_aln (pc := 50) (len := 1) (j := 0) rfl hk rfl ?_
    refine py_gI (pc := 51) (len := 3) (cs := [69]) rfl rfl rfl List.mem_cons_self hS ?_
    cases hb10 : px_cmp .ge v7 (gI hp 69 3) with
    | true =>
      have h := cd_t hb10 h
      refine py_ic (pc := 54) (len := 3) true rfl hb10 ?_
      refine py_its (pc := 126) (pc1 := 127) (lv1 := lv) (st1 := [.int (Int32.ofInt 1)]) 1 (fun _ _ _ _ => rfl) ?_
      have h := Option.some.inj h
      subst h
      exact py_ir (pc := 127) (len := 1) (ty := .boolean) rfl rfl (by decide) hS
    | false =>
      have h := cd_f hb10 h
      refine py_ic (pc := 54) (len := 3) false rfl hb10 ?_
      refine py_iln (pc := 57) (len := 1) (j := 3) rfl hk rfl ?_
      refine py_il (pc := 58) (len := 2) (j := 7) rfl hk rfl ?_
      refine py_st (pc := 60) (mi := mi_M_has) (N := mm_M_has) rfl rfl rfl (Nat.le_of_ble_eq_true rfl) (Nat.le_of_ble_eq_true rfl) rfl rfl (sx_has_C v3 v7 hp) ?_
      show px_Y mm_M_drawsFrom 63 lv [.int (sx_has v3 v7)] hp _ _
      cases hb11 : px_cmp .ne (sx_has v3 v7) 0 with
      | true =>
        have h := cd_t hb11 h
        refine py_if (pc := 63) (len := 3) true rfl hb11 ?_
        refine py_aln (pc := 69) (len := 1) (j := 0) rfl hk rfl ?_
        refine py_its (pc := 70) (pc1 := 71) (lv1 := lv) (st1 := [.int (Int32.ofInt 0), .ref 69]) 1 (fun _ _ _ _ => rfl) ?_
        refine py_iln (pc := 71) (len := 1) (j := 1) rfl hk rfl ?_
        obtain ⟨q12, hq13, h⟩ := bd_e h
        obtain ⟨hC14, hS15⟩ := fx_M_looksAt hS hq13
        refine py_vi (pc := 72) (mi := mi_M_looksAt) (cs := [69]) (N := mm_M_looksAt) rfl rfl rfl rfl List.mem_cons_self hS rfl (Nat.le_of_ble_eq_true rfl) (Nat.le_of_ble_eq_true rfl) rfl rfl hC14 ?_
        show px_Y mm_M_drawsFrom 75 lv [] q12 _ _
        refine py_aln (pc := 75) (len := 1) (j := 0) rfl hk rfl ?_
        refine py_its (pc := 76) (pc1 := 77) (lv1 := lv) (st1 := [.ref 69, .ref 69]) 1 (fun _ _ _ _ => rfl) ?_
        refine py_gL (pc := 77) (len := 3) (cs := [69]) rfl rfl rfl List.mem_cons_self hS15 ?_
        refine py_aln (pc := 80) (len := 1) (j := 0) rfl hk rfl ?_
        refine py_iln (pc := 81) (len := 1) (j := 2) rfl hk rfl ?_
        refine py_il (pc := 82) (len := 2) (j := 7) rfl hk rfl ?_
        obtain ⟨q16, hq17, h⟩ := bd_e h
        obtain ⟨hC18, hS19⟩ := fx_M_takes hS15 hq17
        refine py_vi (pc := 84) (mi := mi_M_takes) (cs := [69]) (N := mm_M_takes) rfl rfl rfl rfl List.mem_cons_self hS15 rfl (Nat.le_of_ble_eq_true rfl) (Nat.le_of_ble_eq_true rfl) rfl rfl hC18 ?_
        show px_Y mm_M_drawsFrom 87 lv [.int q16.1, .long (gL q12 69 46), .ref 69] q16.2 _ _
        cases hb20 : px_cmp .eq q16.1 0 with
        | true =>
          have h := cd_t hb20 h
          refine py_if (pc := 87) (len := 3) true rfl hb20 ?_
          refine py_ll (pc := 94) (len := 2) (j := 5) rfl hk rfl ?_
          refine py_il (pc := 96) (len := 2) (j := 4) rfl hk rfl ?_
          refine py_its (pc := 98) (pc1 := 99) (lv1 := lv) (st1 := [.long v4.toInt64, .long v5, .long (gL q12 69 46), .ref 69]) 1 (fun _ _ _ _ => rfl) ?_
          obtain ⟨hz21, h⟩ := cd_m h
          refine py_div (pc := 99) (len := 1) rfl hz21 ?_
          refine py_its (pc := 100) (pc1 := 101) (lv1 := lv) (st1 := [.long ((gL q12 69 46) + (v5 / v4.toInt64)), .ref 69]) 1 (fun _ _ _ _ => rfl) ?_
          have h := sb_e h
          refine py_pL (pc := 101) (len := 3) (cs := [69]) rfl rfl rfl List.mem_cons_self hS19 rfl rfl rfl rfl ?_
          have hS23 : oS (wF q16.2 69 46 (.long ((gL q12 69 46) + (v5 / v4.toInt64)))) := oS_wL (cs := [69]) (ci := 9) rfl List.mem_cons_self hS19
          generalize (wF q16.2 69 46 (.long ((gL q12 69 46) + (v5 / v4.toInt64)))) = h22 at h hS23 ⊢
          refine py_aln (pc := 104) (len := 1) (j := 0) rfl hk rfl ?_
          refine py_its (pc := 105) (pc1 := 106) (lv1 := lv) (st1 := [.int (Int32.ofInt 1), .ref 69]) 1 (fun _ _ _ _ => rfl) ?_
          refine py_ll (pc := 106) (len := 2) (j := 5) rfl hk rfl ?_
          refine py_il (pc := 108) (len := 2) (j := 4) rfl hk rfl ?_
          refine py_its (pc := 110) (pc1 := 111) (lv1 := lv) (st1 := [.long v4.toInt64, .long v5, .int (Int32.ofInt 1), .ref 69]) 1 (fun _ _ _ _ => rfl) ?_
          obtain ⟨hz24, h⟩ := cd_m h
          refine py_div (pc := 111) (len := 1) rfl hz24 ?_
          obtain ⟨q25, hq26, h⟩ := bd_e h
          obtain ⟨hC27, hS28⟩ := fx_M_adds hS23 hq26
          refine py_vi (pc := 112) (mi := mi_M_adds) (cs := [69]) (N := mm_M_adds) rfl rfl rfl rfl List.mem_cons_self hS23 rfl (Nat.le_of_ble_eq_true rfl) (Nat.le_of_ble_eq_true rfl) rfl rfl hC27 ?_
          show px_Y mm_M_drawsFrom 115 lv [.int q25.1] q25.2 _ _
          cases hb29 : px_cmp .ne q25.1 0 with
          | true =>
            have h := cd_t hb29 h
            refine py_if (pc := 115) (len := 3) true rfl hb29 ?_
            refine py_inc (pc := 120) (len := 3) (j := 7) (n := 1) rfl rfl hk rfl (fun lv30 hk31 => ?_)
            have hk31 : lk lv30 [(7, .int (v7 + Int32.ofInt 1)), (0, .ref 69), (1, .int v1), (2, .int v2), (3, .int v3), (4, .int v4), (5, .long v5)] := hk31
            refine py_its (pc := 123) (pc1 := 48) (lv1 := lv30) (st1 := []) 1 (fun _ _ _ _ => rfl) ?_
            exact ih (v7 + Int32.ofInt 1) q25.2 lv30 _ hS28 ⟨lk_find hk31 rfl, lk_find hk31 rfl, lk_find hk31 rfl, lk_find hk31 rfl, lk_find hk31 rfl, lk_find hk31 rfl, lk_find hk31 rfl, trivial⟩ h
          | false =>
            have h := cd_f hb29 h
            refine py_if (pc := 115) (len := 3) false rfl hb29 ?_
            refine py_its (pc := 118) (pc1 := 119) (lv1 := lv) (st1 := [.int (Int32.ofInt 0)]) 1 (fun _ _ _ _ => rfl) ?_
            have h := Option.some.inj h
            subst h
            exact py_ir (pc := 119) (len := 1) (ty := .boolean) rfl rfl (by decide) hS28
        | false =>
          have h := cd_f hb20 h
          refine py_if (pc := 87) (len := 3) false rfl hb20 ?_
          refine py_its (pc := 90) (pc1 := 101) (lv1 := lv) (st1 := [.long ((gL q12 69 46) + (Int64.ofNat 0)), .ref 69]) 3 (fun _ _ _ _ => rfl) ?_
          have h := sb_e h
          refine py_pL (pc := 101) (len := 3) (cs := [69]) rfl rfl rfl List.mem_cons_self hS19 rfl rfl rfl rfl ?_
          have hS33 : oS (wF q16.2 69 46 (.long ((gL q12 69 46) + (Int64.ofNat 0)))) := oS_wL (cs := [69]) (ci := 9) rfl List.mem_cons_self hS19
          generalize (wF q16.2 69 46 (.long ((gL q12 69 46) + (Int64.ofNat 0)))) = h32 at h hS33 ⊢
          refine py_aln (pc := 104) (len := 1) (j := 0) rfl hk rfl ?_
          refine py_its (pc := 105) (pc1 := 106) (lv1 := lv) (st1 := [.int (Int32.ofInt 1), .ref 69]) 1 (fun _ _ _ _ => rfl) ?_
          refine py_ll (pc := 106) (len := 2) (j := 5) rfl hk rfl ?_
          refine py_il (pc := 108) (len := 2) (j := 4) rfl hk rfl ?_
          refine py_its (pc := 110) (pc1 := 111) (lv1 := lv) (st1 := [.long v4.toInt64, .long v5, .int (Int32.ofInt 1), .ref 69]) 1 (fun _ _ _ _ => rfl) ?_
          obtain ⟨hz34, h⟩ := cd_m h
          refine py_div (pc := 111) (len := 1) rfl hz34 ?_
          obtain ⟨q35, hq36, h⟩ := bd_e h
          obtain ⟨hC37, hS38⟩ := fx_M_adds hS33 hq36
          refine py_vi (pc := 112) (mi := mi_M_adds) (cs := [69]) (N := mm_M_adds) rfl rfl rfl rfl List.mem_cons_self hS33 rfl (Nat.le_of_ble_eq_true rfl) (Nat.le_of_ble_eq_true rfl) rfl rfl hC37 ?_
          show px_Y mm_M_drawsFrom 115 lv [.int q35.1] q35.2 _ _
          cases hb39 : px_cmp .ne q35.1 0 with
          | true =>
            have h := cd_t hb39 h
            refine py_if (pc := 115) (len := 3) true rfl hb39 ?_
            refine py_inc (pc := 120) (len := 3) (j := 7) (n := 1) rfl rfl hk rfl (fun lv40 hk41 => ?_)
            have hk41 : lk lv40 [(7, .int (v7 + Int32.ofInt 1)), (0, .ref 69), (1, .int v1), (2, .int v2), (3, .int v3), (4, .int v4), (5, .long v5)] := hk41
            refine py_its (pc := 123) (pc1 := 48) (lv1 := lv40) (st1 := []) 1 (fun _ _ _ _ => rfl) ?_
            exact ih (v7 + Int32.ofInt 1) q35.2 lv40 _ hS38 ⟨lk_find hk41 rfl, lk_find hk41 rfl, lk_find hk41 rfl, lk_find hk41 rfl, lk_find hk41 rfl, lk_find hk41 rfl, lk_find hk41 rfl, trivial⟩ h
          | false =>
            have h := cd_f hb39 h
            refine py_if (pc := 115) (len := 3) false rfl hb39 ?_
            refine py_its (pc := 118) (pc1 := 119) (lv1 := lv) (st1 := [.int (Int32.ofInt 0)]) 1 (fun _ _ _ _ => rfl) ?_
            have h := Option.some.inj h
            subst h
            exact py_ir (pc := 119) (len := 1) (ty := .boolean) rfl rfl (by decide) hS38
      | false =>
        have h := cd_f hb11 h
        refine py_if (pc := 63) (len := 3) false rfl hb11 ?_
        refine py_its (pc := 66) (pc1 := 120) (lv1 := lv) (st1 := []) 1 (fun _ _ _ _ => rfl) ?_
        refine py_inc (pc := 120) (len := 3) (j := 7) (n := 1) rfl rfl hk rfl (fun lv42 hk43 => ?_)
        have hk43 : lk lv42 [(7, .int (v7 + Int32.ofInt 1)), (0, .ref 69), (1, .int v1), (2, .int v2), (3, .int v3), (4, .int v4), (5, .long v5)] := hk43
        refine py_its (pc := 123) (pc1 := 48) (lv1 := lv42) (st1 := []) 1 (fun _ _ _ _ => rfl) ?_
        exact ih (v7 + Int32.ofInt 1) hp lv42 _ hS ⟨lk_find hk43 rfl, lk_find hk43 rfl, lk_find hk43 rfl, lk_find hk43 rfl, lk_find hk43 rfl, lk_find hk43 rfl, lk_find hk43 rfl, trivial⟩ h
noncomputable def fn_M_drawsFrom (a1 : Int32) (a2 : Int32) (hp : px_H) : Option (Int32 × px_H) :=
  (fn_M_looksAt (Int32.ofInt 0) a1 hp).bind fun q1 =>
  bif px_inR a2 6 then
  bif px_inR (aI q1 79 a2.toNatClampNeg) 2 then
  bif px_inR ((Int32.ofInt 0) + a1) 9003 then
  sb (wF q1 69 45 (.long ((gL q1 69 45) + (aL q1 95 ((Int32.ofInt 0) + a1).toNatClampNeg)))) fun h8 =>
  fn_M_drawsFrom_L48 a1 a2 (aI q1 88 (aI q1 79 a2.toNatClampNeg).toNatClampNeg) (nm_bc (aI q1 88 (aI q1 79 a2.toNatClampNeg).toNatClampNeg)) (aL q1 95 ((Int32.ofInt 0) + a1).toNatClampNeg) fu (Int32.ofInt 0) h8
  else none
  else none
  else none
theorem fx_M_drawsFrom {a1 : Int32} {a2 : Int32} {hp : px_H} {res : Int32 × px_H} (hS : oS hp) (h : fn_M_drawsFrom a1 a2 hp = some res) : px_C nm_T nm_P mi_M_drawsFrom [.ref 69, .int a1, .int a2] hp (some (.int res.1)) res.2 ∧ oS res.2 := by
  unfold fn_M_drawsFrom at h
  refine py_C (M := mm_M_drawsFrom) rfl (Nat.le_of_ble_eq_true rfl) ?_
  show px_Y mm_M_drawsFrom 0 [(0, .ref 69), (1, .int a1), (2, .int a2)] [] hp _ _
  refine py_its (pc := 0) (pc1 := 3) (lv1 := [(0, .ref 69), (1, .int a1), (2, .int a2)]) (st1 := [.int a1, .int (Int32.ofInt 0), .ref 69]) 3 (fun _ _ _ _ => rfl) ?_
  obtain ⟨q1, hq2, h⟩ := bd_e h
  obtain ⟨hC3, hS4⟩ := fx_M_looksAt hS hq2
  refine py_vi (pc := 3) (mi := mi_M_looksAt) (cs := [69]) (N := mm_M_looksAt) rfl rfl rfl rfl List.mem_cons_self hS rfl (Nat.le_of_ble_eq_true rfl) (Nat.le_of_ble_eq_true rfl) rfl rfl hC3 ?_
  show px_Y mm_M_drawsFrom 6 [(0, .ref 69), (1, .int a1), (2, .int a2)] [] q1 _ _
  refine py_its (pc := 6) (pc1 := 7) (lv1 := [(0, .ref 69), (1, .int a1), (2, .int a2)]) (st1 := [.ref 69]) 1 (fun _ _ _ _ => rfl) ?_
  refine py_g1 88 (pc := 7) (len := 3) (cs := [69]) rfl rfl rfl List.mem_cons_self hS4 ?_
  refine py_its (pc := 10) (pc1 := 11) (lv1 := [(0, .ref 69), (1, .int a1), (2, .int a2)]) (st1 := [.ref 69, .ref 88]) 1 (fun _ _ _ _ => rfl) ?_
  refine py_g1 79 (pc := 11) (len := 3) (cs := [69]) rfl rfl rfl List.mem_cons_self hS4 ?_
  refine py_its (pc := 14) (pc1 := 15) (lv1 := [(0, .ref 69), (1, .int a1), (2, .int a2)]) (st1 := [.int a2, .ref 79, .ref 88]) 1 (fun _ _ _ _ => rfl) ?_
  obtain ⟨hi5, h⟩ := cd_n h
  refine py_ai (pc := 15) (len := 1) (cs := [79]) (t := 36) (n := 6) rfl rfl rfl hi5 List.mem_cons_self hS4 ?_
  obtain ⟨hi6, h⟩ := cd_n h
  refine py_ai (pc := 16) (len := 1) (cs := [88]) (t := 45) (n := 2) rfl rfl rfl hi6 List.mem_cons_self hS4 ?_
  refine py_its (pc := 17) (pc1 := 19) (lv1 := [(3, .int (aI q1 88 (aI q1 79 a2.toNatClampNeg).toNatClampNeg)), (0, .ref 69), (1, .int a1), (2, .int a2)]) (st1 := [.int (aI q1 88 (aI q1 79 a2.toNatClampNeg).toNatClampNeg)]) 2 (fun _ _ _ _ => rfl) ?_
  refine py_st (pc := 19) (mi := mi_I_bitCount) (N := mm_I_bitCount) rfl rfl rfl (Nat.le_of_ble_eq_true rfl) (Nat.le_of_ble_eq_true rfl) rfl rfl (nm_bc_C (aI q1 88 (aI q1 79 a2.toNatClampNeg).toNatClampNeg) q1) ?_
  show px_Y mm_M_drawsFrom 22 [(3, .int (aI q1 88 (aI q1 79 a2.toNatClampNeg).toNatClampNeg)), (0, .ref 69), (1, .int a1), (2, .int a2)] [.int (nm_bc (aI q1 88 (aI q1 79 a2.toNatClampNeg).toNatClampNeg))] q1 _ _
  refine py_its (pc := 22) (pc1 := 25) (lv1 := [(4, .int (nm_bc (aI q1 88 (aI q1 79 a2.toNatClampNeg).toNatClampNeg))), (3, .int (aI q1 88 (aI q1 79 a2.toNatClampNeg).toNatClampNeg)), (0, .ref 69), (1, .int a1), (2, .int a2)]) (st1 := [.ref 69]) 2 (fun _ _ _ _ => rfl) ?_
  refine py_g1 95 (pc := 25) (len := 3) (cs := [69]) rfl rfl rfl List.mem_cons_self hS4 ?_
  refine py_its (pc := 28) (pc1 := 31) (lv1 := [(4, .int (nm_bc (aI q1 88 (aI q1 79 a2.toNatClampNeg).toNatClampNeg))), (3, .int (aI q1 88 (aI q1 79 a2.toNatClampNeg).toNatClampNeg)), (0, .ref 69), (1, .int a1), (2, .int a2)]) (st1 := [.int ((Int32.ofInt 0) + a1), .ref 95]) 3 (fun _ _ _ _ => rfl) ?_
  obtain ⟨hi7, h⟩ := cd_n h
  refine py_al (pc := 31) (len := 1) (cs := [95]) (t := 52) (n := 9003) rfl rfl rfl hi7 List.mem_cons_self hS4 ?_
  refine py_its (pc := 32) (pc1 := 36) (lv1 := [(5, .long (aL q1 95 ((Int32.ofInt 0) + a1).toNatClampNeg)), (4, .int (nm_bc (aI q1 88 (aI q1 79 a2.toNatClampNeg).toNatClampNeg))), (3, .int (aI q1 88 (aI q1 79 a2.toNatClampNeg).toNatClampNeg)), (0, .ref 69), (1, .int a1), (2, .int a2)]) (st1 := [.ref 69, .ref 69]) 3 (fun _ _ _ _ => rfl) ?_
  refine py_gL (pc := 36) (len := 3) (cs := [69]) rfl rfl rfl List.mem_cons_self hS4 ?_
  refine py_its (pc := 39) (pc1 := 42) (lv1 := [(5, .long (aL q1 95 ((Int32.ofInt 0) + a1).toNatClampNeg)), (4, .int (nm_bc (aI q1 88 (aI q1 79 a2.toNatClampNeg).toNatClampNeg))), (3, .int (aI q1 88 (aI q1 79 a2.toNatClampNeg).toNatClampNeg)), (0, .ref 69), (1, .int a1), (2, .int a2)]) (st1 := [.long ((gL q1 69 45) + (aL q1 95 ((Int32.ofInt 0) + a1).toNatClampNeg)), .ref 69]) 2 (fun _ _ _ _ => rfl) ?_
  have h := sb_e h
  refine py_pL (pc := 42) (len := 3) (cs := [69]) rfl rfl rfl List.mem_cons_self hS4 rfl rfl rfl rfl ?_
  have hS9 : oS (wF q1 69 45 (.long ((gL q1 69 45) + (aL q1 95 ((Int32.ofInt 0) + a1).toNatClampNeg)))) := oS_wL (cs := [69]) (ci := 9) rfl List.mem_cons_self hS4
  generalize (wF q1 69 45 (.long ((gL q1 69 45) + (aL q1 95 ((Int32.ofInt 0) + a1).toNatClampNeg)))) = h8 at h hS9 ⊢
  refine py_its (pc := 45) (pc1 := 48) (lv1 := [(7, .int (Int32.ofInt 0)), (5, .long (aL q1 95 ((Int32.ofInt 0) + a1).toNatClampNeg)), (4, .int (nm_bc (aI q1 88 (aI q1 79 a2.toNatClampNeg).toNatClampNeg))), (3, .int (aI q1 88 (aI q1 79 a2.toNatClampNeg).toNatClampNeg)), (0, .ref 69), (1, .int a1), (2, .int a2)]) (st1 := []) 2 (fun _ _ _ _ => rfl) ?_
  exact fl_M_drawsFrom_L48 fu (Int32.ofInt 0) h8 [(7, .int (Int32.ofInt 0)), (5, .long (aL q1 95 ((Int32.ofInt 0) + a1).toNatClampNeg)), (4, .int (nm_bc (aI q1 88 (aI q1 79 a2.toNatClampNeg).toNatClampNeg))), (3, .int (aI q1 88 (aI q1 79 a2.toNatClampNeg).toNatClampNeg)), (0, .ref 69), (1, .int a1), (2, .int a2)] _ hS9 ⟨rfl, rfl, rfl, rfl, rfl, rfl, rfl, trivial⟩ h
/-! M_goesThrough -/
noncomputable def fb_M_goesThrough_L46 (v1 : Int32) (kc : Int32 → px_H → Option (Int32 × px_H)) (rc : Int32 → Int32 → px_H → Option (Int32 × px_H)) (v2 : Int32) (v3 : Int32) (hp : px_H) : Option (Int32 × px_H) :=
  bif px_cmp .ge v3 (aI hp 96 (Int32.ofInt 0).toNatClampNeg) then
    bif px_cmp .eq v2 0 then
      kc v2 hp
    else
      (fn_M_parts (Int32.ofInt 1) v1 hp).bind fun q29 =>
      bif px_cmp .ne q29.1 0 then
        kc v2 q29.2
      else
        some ((Int32.ofInt 0), q29.2)
  else
    (fn_M_looksAt (Int32.ofInt 0) v3 hp).bind fun q34 =>
    (fn_M_isOver v1 q34).bind fun q38 =>
    bif px_cmp .ne q38 0 then
      rc v2 (v3 + Int32.ofInt 1) q34
    else
      (fn_M_drawsFrom v3 v1 q34).bind fun q46 =>
      bif px_cmp .ne q46.1 0 then
        rc (Int32.ofInt 1) (v3 + Int32.ofInt 1) q46.2
      else
        some ((Int32.ofInt 0), q46.2)
noncomputable def fn_M_goesThrough_L46 (v1 : Int32) (kc : Int32 → px_H → Option (Int32 × px_H)) : Nat → Int32 → Int32 → px_H → Option (Int32 × px_H)
  | 0 => fun _ _ _ => none
  | n + 1 => fb_M_goesThrough_L46 v1 kc (fn_M_goesThrough_L46 v1 kc n)
theorem fl_M_goesThrough_L46 {v1 : Int32} {kc : Int32 → px_H → Option (Int32 × px_H)} (hkc : ∀ (v2 : Int32) (hp : px_H) (lv : List (Nat × Value)) (res : Int32 × px_H), oS hp → lk lv [(0, .ref 69), (1, .int v1), (2, .int v2)] → kc v2 hp = some res → px_Y mm_M_goesThrough 33 lv [] hp (some (.int res.1)) res.2) : ∀ (n : Nat) (v2 : Int32) (v3 : Int32) (hp : px_H) (lv : List (Nat × Value)) (res : Int32 × px_H), oS hp → lk lv [(0, .ref 69), (1, .int v1), (2, .int v2), (3, .int v3)] → fn_M_goesThrough_L46 v1 kc n v2 v3 hp = some res → px_Y mm_M_goesThrough 46 lv [] hp (some (.int res.1)) res.2 := by
  intro n
  induction n with
  | zero =>
    intro v2 v3 hp lv res hS hk h
    cases h
  | succ n ih =>
    intro v2 v3 hp lv res hS hk h
    have h : fb_M_goesThrough_L46 v1 kc (fn_M_goesThrough_L46 v1 kc n) v2 v3 hp = some res := h
    unfold fb_M_goesThrough_L46 at h
    refine py_iln (pc := 46) (len := 1) (j := 3) rfl hk rfl ?_
    refine py_aln (pc := 47) (len := 1) (j := 0) rfl hk rfl ?_
    refine py_g1 96 (pc := 48) (len := 3) (cs := [69]) rfl rfl rfl List.mem_cons_self hS ?_
    refine py_its (pc := 51) (pc1 := 52) (lv1 := lv) (st1 := [.int (Int32.ofInt 0), .ref 96, .int v3]) 1 (fun _ _ _ _ => rfl) ?_
    refine py_ai (pc := 52) (len := 1) (cs := [96]) (t := 53) (n := 3) rfl rfl rfl rfl List.mem_cons_self hS ?_
    cases hb27 : px_cmp .ge v3 (aI hp 96 (Int32.ofInt 0).toNatClampNeg) with
    | true =>
      have h := cd_t hb27 h
      refine py_ic (pc := 53) (len := 3) true rfl hb27 ?_
      refine py_iln (pc := 89) (len := 1) (j := 2) rfl hk rfl ?_
      cases hb28 : px_cmp .eq v2 0 with
      | true =>
        have h := cd_t hb28 h
        refine py_if (pc := 90) (len := 3) true rfl hb28 ?_
        exact hkc v2 hp lv _ hS ⟨lk_find hk rfl, lk_find hk rfl, lk_find hk rfl, trivial⟩ h
      | false =>
        have h := cd_f hb28 h
        refine py_if (pc := 90) (len := 3) false rfl hb28 ?_
        refine py_aln (pc := 93) (len := 1) (j := 0) rfl hk rfl ?_
        refine py_its (pc := 94) (pc1 := 95) (lv1 := lv) (st1 := [.int (Int32.ofInt 1), .ref 69]) 1 (fun _ _ _ _ => rfl) ?_
        refine py_iln (pc := 95) (len := 1) (j := 1) rfl hk rfl ?_
        obtain ⟨q29, hq30, h⟩ := bd_e h
        obtain ⟨hC31, hS32⟩ := fx_M_parts hS hq30
        refine py_vi (pc := 96) (mi := mi_M_parts) (cs := [69]) (N := mm_M_parts) rfl rfl rfl rfl List.mem_cons_self hS rfl (Nat.le_of_ble_eq_true rfl) (Nat.le_of_ble_eq_true rfl) rfl rfl hC31 ?_
        show px_Y mm_M_goesThrough 99 lv [.int q29.1] q29.2 _ _
        cases hb33 : px_cmp .ne q29.1 0 with
        | true =>
          have h := cd_t hb33 h
          refine py_if (pc := 99) (len := 3) true rfl hb33 ?_
          exact hkc v2 q29.2 lv _ hS32 ⟨lk_find hk rfl, lk_find hk rfl, lk_find hk rfl, trivial⟩ h
        | false =>
          have h := cd_f hb33 h
          refine py_if (pc := 99) (len := 3) false rfl hb33 ?_
          refine py_its (pc := 102) (pc1 := 103) (lv1 := lv) (st1 := [.int (Int32.ofInt 0)]) 1 (fun _ _ _ _ => rfl) ?_
          have h := Option.some.inj h
          subst h
          exact py_ir (pc := 103) (len := 1) (ty := .boolean) rfl rfl (by decide) hS32
    | false =>
      have h := cd_f hb27 h
      refine py_ic (pc := 53) (len := 3) false rfl hb27 ?_
      refine py_aln (pc := 56) (len := 1) (j := 0) rfl hk rfl ?_
      refine py_its (pc := 57) (pc1 := 58) (lv1 := lv) (st1 := [.int (Int32.ofInt 0), .ref 69]) 1 (fun _ _ _ _ => rfl) ?_
      refine py_iln (pc := 58) (len := 1) (j := 3) rfl hk rfl ?_
      obtain ⟨q34, hq35, h⟩ := bd_e h
      obtain ⟨hC36, hS37⟩ := fx_M_looksAt hS hq35
      refine py_vi (pc := 59) (mi := mi_M_looksAt) (cs := [69]) (N := mm_M_looksAt) rfl rfl rfl rfl List.mem_cons_self hS rfl (Nat.le_of_ble_eq_true rfl) (Nat.le_of_ble_eq_true rfl) rfl rfl hC36 ?_
      show px_Y mm_M_goesThrough 62 lv [] q34 _ _
      refine py_aln (pc := 62) (len := 1) (j := 0) rfl hk rfl ?_
      refine py_iln (pc := 63) (len := 1) (j := 1) rfl hk rfl ?_
      obtain ⟨q38, hq39, h⟩ := bd_e h
      have hC40 := (fx_M_isOver hS37 hq39).1
      refine py_vi (pc := 64) (mi := mi_M_isOver) (cs := [69]) (N := mm_M_isOver) rfl rfl rfl rfl List.mem_cons_self hS37 rfl (Nat.le_of_ble_eq_true rfl) (Nat.le_of_ble_eq_true rfl) rfl rfl hC40 ?_
      show px_Y mm_M_goesThrough 67 lv [.int q38] q34 _ _
      cases hb41 : px_cmp .ne q38 0 with
      | true =>
        have h := cd_t hb41 h
        refine py_if (pc := 67) (len := 3) true rfl hb41 ?_
        refine py_inc (pc := 83) (len := 3) (j := 3) (n := 1) rfl rfl hk rfl (fun lv42 hk43 => ?_)
        have hk43 : lk lv42 [(3, .int (v3 + Int32.ofInt 1)), (0, .ref 69), (1, .int v1), (2, .int v2)] := hk43
        refine py_its (pc := 86) (pc1 := 46) (lv1 := lv42) (st1 := []) 1 (fun _ _ _ _ => rfl) ?_
        exact ih v2 (v3 + Int32.ofInt 1) q34 lv42 _ hS37 ⟨lk_find hk43 rfl, lk_find hk43 rfl, lk_find hk43 rfl, lk_find hk43 rfl, trivial⟩ h
      | false =>
        have h := cd_f hb41 h
        refine py_if (pc := 67) (len := 3) false rfl hb41 ?_
        refine py_its (pc := 70) (pc1 := 71) (lv1 := lv) (st1 := [.int (Int32.ofInt 1)]) 1 (fun _ _ _ _ => rfl) ?_
        refine py_sin (pc := 71) (len := 1) (j := 2) rfl rfl hk (fun lv44 hk45 => ?_)
        have hk45 : lk lv44 [(2, .int (Int32.ofInt 1)), (0, .ref 69), (1, .int v1), (3, .int v3)] := hk45
        refine py_aln (pc := 72) (len := 1) (j := 0) rfl hk45 rfl ?_
        refine py_iln (pc := 73) (len := 1) (j := 3) rfl hk45 rfl ?_
        refine py_iln (pc := 74) (len := 1) (j := 1) rfl hk45 rfl ?_
        obtain ⟨q46, hq47, h⟩ := bd_e h
        obtain ⟨hC48, hS49⟩ := fx_M_drawsFrom hS37 hq47
        refine py_vi (pc := 75) (mi := mi_M_drawsFrom) (cs := [69]) (N := mm_M_drawsFrom) rfl rfl rfl rfl List.mem_cons_self hS37 rfl (Nat.le_of_ble_eq_true rfl) (Nat.le_of_ble_eq_true rfl) rfl rfl hC48 ?_
        show px_Y mm_M_goesThrough 78 lv44 [.int q46.1] q46.2 _ _
        cases hb50 : px_cmp .ne q46.1 0 with
        | true =>
          have h := cd_t hb50 h
          refine py_if (pc := 78) (len := 3) true rfl hb50 ?_
          refine py_inc (pc := 83) (len := 3) (j := 3) (n := 1) rfl rfl hk45 rfl (fun lv51 hk52 => ?_)
          have hk52 : lk lv51 [(3, .int (v3 + Int32.ofInt 1)), (2, .int (Int32.ofInt 1)), (0, .ref 69), (1, .int v1)] := hk52
          refine py_its (pc := 86) (pc1 := 46) (lv1 := lv51) (st1 := []) 1 (fun _ _ _ _ => rfl) ?_
          exact ih (Int32.ofInt 1) (v3 + Int32.ofInt 1) q46.2 lv51 _ hS49 ⟨lk_find hk52 rfl, lk_find hk52 rfl, lk_find hk52 rfl, lk_find hk52 rfl, trivial⟩ h
        | false =>
          have h := cd_f hb50 h
          refine py_if (pc := 78) (len := 3) false rfl hb50 ?_
          refine py_its (pc := 81) (pc1 := 82) (lv1 := lv44) (st1 := [.int (Int32.ofInt 0)]) 1 (fun _ _ _ _ => rfl) ?_
          have h := Option.some.inj h
          subst h
          exact py_ir (pc := 82) (len := 1) (ty := .boolean) rfl rfl (by decide) hS49
noncomputable def fb_M_goesThrough_L33 (v1 : Int32) (rc : Int32 → px_H → Option (Int32 × px_H)) (v2 : Int32) (hp : px_H) : Option (Int32 × px_H) :=
  bif px_cmp .eq v2 0 then
    some ((Int32.ofInt 1), hp)
  else
    (fn_M_empties (Int32.ofInt 1) hp).bind fun q19 =>
    fn_M_goesThrough_L46 v1 rc fu (Int32.ofInt 0) (Int32.ofInt 0) q19
noncomputable def fn_M_goesThrough_L33 (v1 : Int32) : Nat → Int32 → px_H → Option (Int32 × px_H)
  | 0 => fun _ _ => none
  | n + 1 => fb_M_goesThrough_L33 v1 (fn_M_goesThrough_L33 v1 n)
theorem fl_M_goesThrough_L33 {v1 : Int32}  : ∀ (n : Nat) (v2 : Int32) (hp : px_H) (lv : List (Nat × Value)) (res : Int32 × px_H), oS hp → lk lv [(0, .ref 69), (1, .int v1), (2, .int v2)] → fn_M_goesThrough_L33 v1 n v2 hp = some res → px_Y mm_M_goesThrough 33 lv [] hp (some (.int res.1)) res.2 := by
  intro n
  induction n with
  | zero =>
    intro v2 hp lv res hS hk h
    cases h
  | succ n ih =>
    intro v2 hp lv res hS hk h
    have h : fb_M_goesThrough_L33 v1 (fn_M_goesThrough_L33 v1 n) v2 hp = some res := h
    unfold fb_M_goesThrough_L33 at h
    refine py_iln (pc := 33) (len := 1) (j := 2) rfl hk rfl ?_
    cases hb18 : px_cmp .eq v2 0 with
    | true =>
      have h := cd_t hb18 h
      refine py_if (pc := 34) (len := 3) true rfl hb18 ?_
      refine py_its (pc := 104) (pc1 := 105) (lv1 := lv) (st1 := [.int (Int32.ofInt 1)]) 1 (fun _ _ _ _ => rfl) ?_
      have h := Option.some.inj h
      subst h
      exact py_ir (pc := 105) (len := 1) (ty := .boolean) rfl rfl (by decide) hS
    | false =>
      have h := cd_f hb18 h
      refine py_if (pc := 34) (len := 3) false rfl hb18 ?_
      refine py_aln (pc := 37) (len := 1) (j := 0) rfl hk rfl ?_
      refine py_its (pc := 38) (pc1 := 39) (lv1 := lv) (st1 := [.int (Int32.ofInt 1), .ref 69]) 1 (fun _ _ _ _ => rfl) ?_
      obtain ⟨q19, hq20, h⟩ := bd_e h
      obtain ⟨hC21, hS22⟩ := fx_M_empties hS hq20
      refine py_vi (pc := 39) (mi := mi_M_empties) (cs := [69]) (N := mm_M_empties) rfl rfl rfl rfl List.mem_cons_self hS rfl (Nat.le_of_ble_eq_true rfl) (Nat.le_of_ble_eq_true rfl) rfl rfl hC21 ?_
      show px_Y mm_M_goesThrough 42 lv [] q19 _ _
      refine py_its (pc := 42) (pc1 := 43) (lv1 := lv) (st1 := [.int (Int32.ofInt 0)]) 1 (fun _ _ _ _ => rfl) ?_
      refine py_sin (pc := 43) (len := 1) (j := 2) rfl rfl hk (fun lv23 hk24 => ?_)
      have hk24 : lk lv23 [(2, .int (Int32.ofInt 0)), (0, .ref 69), (1, .int v1)] := hk24
      refine py_its (pc := 44) (pc1 := 45) (lv1 := lv23) (st1 := [.int (Int32.ofInt 0)]) 1 (fun _ _ _ _ => rfl) ?_
      refine py_sin (pc := 45) (len := 1) (j := 3) rfl rfl hk24 (fun lv25 hk26 => ?_)
      have hk26 : lk lv25 [(3, .int (Int32.ofInt 0)), (2, .int (Int32.ofInt 0)), (0, .ref 69), (1, .int v1)] := hk26
      exact fl_M_goesThrough_L46 ih fu (Int32.ofInt 0) (Int32.ofInt 0) q19 lv25 _ hS22 ⟨lk_find hk26 rfl, lk_find hk26 rfl, lk_find hk26 rfl, lk_find hk26 rfl, trivial⟩ h
noncomputable def fn_M_goesThrough (a1 : Int32) (hp : px_H) : Option (Int32 × px_H) :=
  sb (wF hp 69 45 (.long (Int64.ofNat 0))) fun h1 =>
  sb (wF h1 69 46 (.long (Int64.ofNat 0))) fun h3 =>
  (fn_M_opensAll a1 h3).bind fun q5 =>
  (fn_M_empties (Int32.ofInt 2) q5).bind fun q9 =>
  (fn_M_parts (Int32.ofInt 0) a1 q9).bind fun q13 =>
  bif px_cmp .ne q13.1 0 then
    fn_M_goesThrough_L33 a1 fu (Int32.ofInt 1) q13.2
  else
    some ((Int32.ofInt 0), q13.2)
theorem fx_M_goesThrough {a1 : Int32} {hp : px_H} {res : Int32 × px_H} (hS : oS hp) (h : fn_M_goesThrough a1 hp = some res) : px_C nm_T nm_P mi_M_goesThrough [.ref 69, .int a1] hp (some (.int res.1)) res.2 ∧ oS res.2 := by
  unfold fn_M_goesThrough at h
  refine py_C (M := mm_M_goesThrough) rfl (Nat.le_of_ble_eq_true rfl) ?_
  show px_Y mm_M_goesThrough 0 [(0, .ref 69), (1, .int a1)] [] hp _ _
  refine py_its (pc := 0) (pc1 := 2) (lv1 := [(0, .ref 69), (1, .int a1)]) (st1 := [.long (Int64.ofNat 0), .ref 69]) 2 (fun _ _ _ _ => rfl) ?_
  have h := sb_e h
  refine py_pL (pc := 2) (len := 3) (cs := [69]) rfl rfl rfl List.mem_cons_self hS rfl rfl rfl rfl ?_
  have hS2 : oS (wF hp 69 45 (.long (Int64.ofNat 0))) := oS_wL (cs := [69]) (ci := 9) rfl List.mem_cons_self hS
  generalize (wF hp 69 45 (.long (Int64.ofNat 0))) = h1 at h hS2 ⊢
  refine py_its (pc := 5) (pc1 := 7) (lv1 := [(0, .ref 69), (1, .int a1)]) (st1 := [.long (Int64.ofNat 0), .ref 69]) 2 (fun _ _ _ _ => rfl) ?_
  have h := sb_e h
  refine py_pL (pc := 7) (len := 3) (cs := [69]) rfl rfl rfl List.mem_cons_self hS2 rfl rfl rfl rfl ?_
  have hS4 : oS (wF h1 69 46 (.long (Int64.ofNat 0))) := oS_wL (cs := [69]) (ci := 9) rfl List.mem_cons_self hS2
  generalize (wF h1 69 46 (.long (Int64.ofNat 0))) = h3 at h hS4 ⊢
  refine py_its (pc := 10) (pc1 := 12) (lv1 := [(0, .ref 69), (1, .int a1)]) (st1 := [.int a1, .ref 69]) 2 (fun _ _ _ _ => rfl) ?_
  obtain ⟨q5, hq6, h⟩ := bd_e h
  obtain ⟨hC7, hS8⟩ := fx_M_opensAll hS4 hq6
  refine py_vi (pc := 12) (mi := mi_M_opensAll) (cs := [69]) (N := mm_M_opensAll) rfl rfl rfl rfl List.mem_cons_self hS4 rfl (Nat.le_of_ble_eq_true rfl) (Nat.le_of_ble_eq_true rfl) rfl rfl hC7 ?_
  show px_Y mm_M_goesThrough 15 [(0, .ref 69), (1, .int a1)] [] q5 _ _
  refine py_its (pc := 15) (pc1 := 17) (lv1 := [(0, .ref 69), (1, .int a1)]) (st1 := [.int (Int32.ofInt 2), .ref 69]) 2 (fun _ _ _ _ => rfl) ?_
  obtain ⟨q9, hq10, h⟩ := bd_e h
  obtain ⟨hC11, hS12⟩ := fx_M_empties hS8 hq10
  refine py_vi (pc := 17) (mi := mi_M_empties) (cs := [69]) (N := mm_M_empties) rfl rfl rfl rfl List.mem_cons_self hS8 rfl (Nat.le_of_ble_eq_true rfl) (Nat.le_of_ble_eq_true rfl) rfl rfl hC11 ?_
  show px_Y mm_M_goesThrough 20 [(0, .ref 69), (1, .int a1)] [] q9 _ _
  refine py_its (pc := 20) (pc1 := 23) (lv1 := [(0, .ref 69), (1, .int a1)]) (st1 := [.int a1, .int (Int32.ofInt 0), .ref 69]) 3 (fun _ _ _ _ => rfl) ?_
  obtain ⟨q13, hq14, h⟩ := bd_e h
  obtain ⟨hC15, hS16⟩ := fx_M_parts hS12 hq14
  refine py_vi (pc := 23) (mi := mi_M_parts) (cs := [69]) (N := mm_M_parts) rfl rfl rfl rfl List.mem_cons_self hS12 rfl (Nat.le_of_ble_eq_true rfl) (Nat.le_of_ble_eq_true rfl) rfl rfl hC15 ?_
  show px_Y mm_M_goesThrough 26 [(0, .ref 69), (1, .int a1)] [.int q13.1] q13.2 _ _
  cases hb17 : px_cmp .ne q13.1 0 with
  | true =>
    have h := cd_t hb17 h
    refine py_if (pc := 26) (len := 3) true rfl hb17 ?_
    refine py_its (pc := 31) (pc1 := 33) (lv1 := [(2, .int (Int32.ofInt 1)), (0, .ref 69), (1, .int a1)]) (st1 := []) 2 (fun _ _ _ _ => rfl) ?_
    exact fl_M_goesThrough_L33 fu (Int32.ofInt 1) q13.2 [(2, .int (Int32.ofInt 1)), (0, .ref 69), (1, .int a1)] _ hS16 ⟨rfl, rfl, rfl, trivial⟩ h
  | false =>
    have h := cd_f hb17 h
    refine py_if (pc := 26) (len := 3) false rfl hb17 ?_
    refine py_its (pc := 29) (pc1 := 30) (lv1 := [(0, .ref 69), (1, .int a1)]) (st1 := [.int (Int32.ofInt 0)]) 1 (fun _ _ _ _ => rfl) ?_
    have h := Option.some.inj h
    subst h
    exact py_ir (pc := 30) (len := 1) (ty := .boolean) rfl rfl (by decide) hS16
/-! M_reaches -/
noncomputable def fb_M_reaches_L21 (v1 : Int32) (rc : Int32 → Int32 → px_H → Option (Int32 × px_H)) (v2 : Int32) (v3 : Int32) (hp : px_H) : Option (Int32 × px_H) :=
  bif px_cmp .gt v2 v1 then
    bif px_zr .boolean v3 then
    some (v3, hp)
    else none
  else
    bif px_cmp .eq v3 0 then
      bif px_zr .boolean v3 then
      some (v3, hp)
      else none
    else
      (fn_M_goesThrough v2 hp).bind fun q13 =>
      rc (v2 + Int32.ofInt 1) q13.1 q13.2
noncomputable def fn_M_reaches_L21 (v1 : Int32) : Nat → Int32 → Int32 → px_H → Option (Int32 × px_H)
  | 0 => fun _ _ _ => none
  | n + 1 => fb_M_reaches_L21 v1 (fn_M_reaches_L21 v1 n)
theorem fl_M_reaches_L21 {v1 : Int32}  : ∀ (n : Nat) (v2 : Int32) (v3 : Int32) (hp : px_H) (lv : List (Nat × Value)) (res : Int32 × px_H), oS hp → lk lv [(0, .ref 69), (1, .int v1), (2, .int v2), (3, .int v3)] → fn_M_reaches_L21 v1 n v2 v3 hp = some res → px_Y mm_M_reaches 21 lv [] hp (some (.int res.1)) res.2 := by
  intro n
  induction n with
  | zero =>
    intro v2 v3 hp lv res hS hk h
    cases h
  | succ n ih =>
    intro v2 v3 hp lv res hS hk h
    have h : fb_M_reaches_L21 v1 (fn_M_reaches_L21 v1 n) v2 v3 hp = some res := h
    unfold fb_M_reaches_L21 at h
    refine py_iln (pc := 21) (len := 1) (j := 2) rfl hk rfl ?_
    refine py_iln (pc := 22) (len := 1) (j := 1) rfl hk rfl ?_
    cases hb9 : px_cmp .gt v2 v1 with
    | true =>
      have h := cd_t hb9 h
      refine py_ic (pc := 23) (len := 3) true rfl hb9 ?_
      refine py_iln (pc := 42) (len := 1) (j := 3) rfl hk rfl ?_
      obtain ⟨hz10, h⟩ := cd_n h
      have h := Option.some.inj h
      subst h
      exact py_ir (pc := 43) (len := 1) (ty := .boolean) rfl rfl hz10 hS
    | false =>
      have h := cd_f hb9 h
      refine py_ic (pc := 23) (len := 3) false rfl hb9 ?_
      refine py_iln (pc := 26) (len := 1) (j := 3) rfl hk rfl ?_
      cases hb11 : px_cmp .eq v3 0 with
      | true =>
        have h := cd_t hb11 h
        refine py_if (pc := 27) (len := 3) true rfl hb11 ?_
        refine py_iln (pc := 42) (len := 1) (j := 3) rfl hk rfl ?_
        obtain ⟨hz12, h⟩ := cd_n h
        have h := Option.some.inj h
        subst h
        exact py_ir (pc := 43) (len := 1) (ty := .boolean) rfl rfl hz12 hS
      | false =>
        have h := cd_f hb11 h
        refine py_if (pc := 27) (len := 3) false rfl hb11 ?_
        refine py_aln (pc := 30) (len := 1) (j := 0) rfl hk rfl ?_
        refine py_iln (pc := 31) (len := 1) (j := 2) rfl hk rfl ?_
        obtain ⟨q13, hq14, h⟩ := bd_e h
        obtain ⟨hC15, hS16⟩ := fx_M_goesThrough hS hq14
        refine py_vi (pc := 32) (mi := mi_M_goesThrough) (cs := [69]) (N := mm_M_goesThrough) rfl rfl rfl rfl List.mem_cons_self hS rfl (Nat.le_of_ble_eq_true rfl) (Nat.le_of_ble_eq_true rfl) rfl rfl hC15 ?_
        show px_Y mm_M_reaches 35 lv [.int q13.1] q13.2 _ _
        refine py_sin (pc := 35) (len := 1) (j := 3) rfl rfl hk (fun lv17 hk18 => ?_)
        have hk18 : lk lv17 [(3, .int q13.1), (0, .ref 69), (1, .int v1), (2, .int v2)] := hk18
        refine py_inc (pc := 36) (len := 3) (j := 2) (n := 1) rfl rfl hk18 rfl (fun lv19 hk20 => ?_)
        have hk20 : lk lv19 [(2, .int (v2 + Int32.ofInt 1)), (3, .int q13.1), (0, .ref 69), (1, .int v1)] := hk20
        refine py_its (pc := 39) (pc1 := 21) (lv1 := lv19) (st1 := []) 1 (fun _ _ _ _ => rfl) ?_
        exact ih (v2 + Int32.ofInt 1) q13.1 q13.2 lv19 _ hS16 ⟨lk_find hk20 rfl, lk_find hk20 rfl, lk_find hk20 rfl, lk_find hk20 rfl, trivial⟩ h
noncomputable def fn_M_reaches (a1 : Int32) (hp : px_H) : Option (Int32 × px_H) :=
  (fn_M_empties (Int32.ofInt 2) hp).bind fun q1 =>
  (fn_M_adds (Int32.ofInt 2) (Int64.ofInt 1000000000000) q1).bind fun q5 =>
  fn_M_reaches_L21 a1 fu (gI hp 69 31) (Int32.ofInt 1) q5.2
theorem fx_M_reaches {a1 : Int32} {hp : px_H} {res : Int32 × px_H} (hS : oS hp) (h : fn_M_reaches a1 hp = some res) : px_C nm_T nm_P mi_M_reaches [.ref 69, .int a1] hp (some (.int res.1)) res.2 ∧ oS res.2 := by
  unfold fn_M_reaches at h
  refine py_C (M := mm_M_reaches) rfl (Nat.le_of_ble_eq_true rfl) ?_
  show px_Y mm_M_reaches 0 [(0, .ref 69), (1, .int a1)] [] hp _ _
  refine py_its (pc := 0) (pc1 := 1) (lv1 := [(0, .ref 69), (1, .int a1)]) (st1 := [.ref 69]) 1 (fun _ _ _ _ => rfl) ?_
  refine py_gI (pc := 1) (len := 3) (cs := [69]) rfl rfl rfl List.mem_cons_self hS ?_
  refine py_its (pc := 4) (pc1 := 7) (lv1 := [(2, .int (gI hp 69 31)), (0, .ref 69), (1, .int a1)]) (st1 := [.int (Int32.ofInt 2), .ref 69]) 3 (fun _ _ _ _ => rfl) ?_
  obtain ⟨q1, hq2, h⟩ := bd_e h
  obtain ⟨hC3, hS4⟩ := fx_M_empties hS hq2
  refine py_vi (pc := 7) (mi := mi_M_empties) (cs := [69]) (N := mm_M_empties) rfl rfl rfl rfl List.mem_cons_self hS rfl (Nat.le_of_ble_eq_true rfl) (Nat.le_of_ble_eq_true rfl) rfl rfl hC3 ?_
  show px_Y mm_M_reaches 10 [(2, .int (gI hp 69 31)), (0, .ref 69), (1, .int a1)] [] q1 _ _
  refine py_its (pc := 10) (pc1 := 15) (lv1 := [(2, .int (gI hp 69 31)), (0, .ref 69), (1, .int a1)]) (st1 := [.long (Int64.ofInt 1000000000000), .int (Int32.ofInt 2), .ref 69]) 3 (fun _ _ _ _ => rfl) ?_
  obtain ⟨q5, hq6, h⟩ := bd_e h
  obtain ⟨hC7, hS8⟩ := fx_M_adds hS4 hq6
  refine py_vi (pc := 15) (mi := mi_M_adds) (cs := [69]) (N := mm_M_adds) rfl rfl rfl rfl List.mem_cons_self hS4 rfl (Nat.le_of_ble_eq_true rfl) (Nat.le_of_ble_eq_true rfl) rfl rfl hC7 ?_
  show px_Y mm_M_reaches 18 [(2, .int (gI hp 69 31)), (0, .ref 69), (1, .int a1)] [.int q5.1] q5.2 _ _
  refine py_its (pc := 18) (pc1 := 21) (lv1 := [(3, .int (Int32.ofInt 1)), (2, .int (gI hp 69 31)), (0, .ref 69), (1, .int a1)]) (st1 := []) 3 (fun _ _ _ _ => rfl) ?_
  exact fl_M_reaches_L21 fu (gI hp 69 31) (Int32.ofInt 1) q5.2 [(3, .int (Int32.ofInt 1)), (2, .int (gI hp 69 31)), (0, .ref 69), (1, .int a1)] _ hS8 ⟨rfl, rfl, rfl, rfl, trivial⟩ h
/-! M_reachesNow -/
noncomputable def fn_M_reachesNow (a1 : Int32) (hp : px_H) : Option (Int32 × px_H) :=
  (fn_M_remembers hp).bind fun q1 =>
  (fn_M_reaches a1 q1).bind fun q5 =>
  (fn_M_comesBack q5.2).bind fun q9 =>
  bif px_zr .boolean q5.1 then
  some (q5.1, q9)
  else none
theorem fx_M_reachesNow {a1 : Int32} {hp : px_H} {res : Int32 × px_H} (hS : oS hp) (h : fn_M_reachesNow a1 hp = some res) : px_C nm_T nm_P mi_M_reachesNow [.ref 69, .int a1] hp (some (.int res.1)) res.2 ∧ oS res.2 := by
  unfold fn_M_reachesNow at h
  refine py_C (M := mm_M_reachesNow) rfl (Nat.le_of_ble_eq_true rfl) ?_
  show px_Y mm_M_reachesNow 0 [(0, .ref 69), (1, .int a1)] [] hp _ _
  refine py_its (pc := 0) (pc1 := 1) (lv1 := [(0, .ref 69), (1, .int a1)]) (st1 := [.ref 69]) 1 (fun _ _ _ _ => rfl) ?_
  obtain ⟨q1, hq2, h⟩ := bd_e h
  obtain ⟨hC3, hS4⟩ := fx_M_remembers hS hq2
  refine py_vi (pc := 1) (mi := mi_M_remembers) (cs := [69]) (N := mm_M_remembers) rfl rfl rfl rfl List.mem_cons_self hS rfl (Nat.le_of_ble_eq_true rfl) (Nat.le_of_ble_eq_true rfl) rfl rfl hC3 ?_
  show px_Y mm_M_reachesNow 4 [(0, .ref 69), (1, .int a1)] [] q1 _ _
  refine py_its (pc := 4) (pc1 := 6) (lv1 := [(0, .ref 69), (1, .int a1)]) (st1 := [.int a1, .ref 69]) 2 (fun _ _ _ _ => rfl) ?_
  obtain ⟨q5, hq6, h⟩ := bd_e h
  obtain ⟨hC7, hS8⟩ := fx_M_reaches hS4 hq6
  refine py_vi (pc := 6) (mi := mi_M_reaches) (cs := [69]) (N := mm_M_reaches) rfl rfl rfl rfl List.mem_cons_self hS4 rfl (Nat.le_of_ble_eq_true rfl) (Nat.le_of_ble_eq_true rfl) rfl rfl hC7 ?_
  show px_Y mm_M_reachesNow 9 [(0, .ref 69), (1, .int a1)] [.int q5.1] q5.2 _ _
  refine py_its (pc := 9) (pc1 := 11) (lv1 := [(2, .int q5.1), (0, .ref 69), (1, .int a1)]) (st1 := [.ref 69]) 2 (fun _ _ _ _ => rfl) ?_
  obtain ⟨q9, hq10, h⟩ := bd_e h
  obtain ⟨hC11, hS12⟩ := fx_M_comesBack hS8 hq10
  refine py_vi (pc := 11) (mi := mi_M_comesBack) (cs := [69]) (N := mm_M_comesBack) rfl rfl rfl rfl List.mem_cons_self hS8 rfl (Nat.le_of_ble_eq_true rfl) (Nat.le_of_ble_eq_true rfl) rfl rfl hC11 ?_
  show px_Y mm_M_reachesNow 14 [(2, .int q5.1), (0, .ref 69), (1, .int a1)] [] q9 _ _
  refine py_its (pc := 14) (pc1 := 15) (lv1 := [(2, .int q5.1), (0, .ref 69), (1, .int a1)]) (st1 := [.int q5.1]) 1 (fun _ _ _ _ => rfl) ?_
  obtain ⟨hz13, h⟩ := cd_n h
  have h := Option.some.inj h
  subst h
  exact py_ir (pc := 15) (len := 1) (ty := .boolean) rfl rfl hz13 hS12
/-! M_satAt -/
noncomputable def fb_M_satAt_L11 (v2 : Int32) (hp : px_H) (rc : Int32 → Int32 → Option (Int32 × px_H)) (v3 : Int32) (v4 : Int32) : Option (Int32 × px_H) :=
  bif px_cmp .ge v4 (gI hp 69 3) then
    some (v3, hp)
  else
    bif px_inR v4 10 then
    bif px_cmp .ne (aI hp 90 v4.toNatClampNeg) (v2 + (Int32.ofInt 1)) then
      rc (v3 ||| (Int32.ofInt 0)) (v4 + Int32.ofInt 1)
    else
      rc (v3 ||| ((Int32.ofInt 1) <<< (v4 &&& 31))) (v4 + Int32.ofInt 1)
    else none
noncomputable def fn_M_satAt_L11 (v2 : Int32) (hp : px_H) : Nat → Int32 → Int32 → Option (Int32 × px_H)
  | 0 => fun _ _ => none
  | n + 1 => fb_M_satAt_L11 v2 hp (fn_M_satAt_L11 v2 hp n)
theorem fl_M_satAt_L11 {v2 : Int32} {hp : px_H}  : ∀ (n : Nat) (v3 : Int32) (v4 : Int32) (lv : List (Nat × Value)) (res : Int32 × px_H), oS hp → lk lv [(0, .ref 69), (2, .int v2), (3, .int v3), (4, .int v4)] → fn_M_satAt_L11 v2 hp n v3 v4 = some res → px_Y mm_M_satAt 11 lv [] hp (some (.int res.1)) res.2 := by
  intro n
  induction n with
  | zero =>
    intro v3 v4 lv res hS hk h
    cases h
  | succ n ih =>
    intro v3 v4 lv res hS hk h
    have h : fb_M_satAt_L11 v2 hp (fn_M_satAt_L11 v2 hp n) v3 v4 = some res := h
    unfold fb_M_satAt_L11 at h
    refine py_il (pc := 11) (len := 2) (j := 4) rfl hk rfl ?_
    refine py_aln (pc := 13) (len := 1) (j := 0) rfl hk rfl ?_
    refine py_gI (pc := 14) (len := 3) (cs := [69]) rfl rfl rfl List.mem_cons_self hS ?_
    cases hb5 : px_cmp .ge v4 (gI hp 69 3) with
    | true =>
      have h := cd_t hb5 h
      refine py_ic (pc := 17) (len := 3) true rfl hb5 ?_
      refine py_iln (pc := 50) (len := 1) (j := 3) rfl hk rfl ?_
      have h := Option.some.inj h
      subst h
      exact py_ir (pc := 51) (len := 1) (ty := .int) rfl rfl rfl hS
    | false =>
      have h := cd_f hb5 h
      refine py_ic (pc := 17) (len := 3) false rfl hb5 ?_
      refine py_iln (pc := 20) (len := 1) (j := 3) rfl hk rfl ?_
      refine py_aln (pc := 21) (len := 1) (j := 0) rfl hk rfl ?_
      refine py_g1 90 (pc := 22) (len := 3) (cs := [69]) rfl rfl rfl List.mem_cons_self hS ?_
      refine py_il (pc := 25) (len := 2) (j := 4) rfl hk rfl ?_
      obtain ⟨hi6, h⟩ := cd_n h
      refine py_ai (pc := 27) (len := 1) (cs := [90]) (t := 47) (n := 10) rfl rfl rfl hi6 List.mem_cons_self hS ?_
      refine py_iln (pc := 28) (len := 1) (j := 2) rfl hk rfl ?_
      refine py_its (pc := 29) (pc1 := 31) (lv1 := lv) (st1 := [.int (v2 + (Int32.ofInt 1)), .int (aI hp 90 v4.toNatClampNeg), .int v3]) 2 (fun _ _ _ _ => rfl) ?_
      cases hb7 : px_cmp .ne (aI hp 90 v4.toNatClampNeg) (v2 + (Int32.ofInt 1)) with
      | true =>
        have h := cd_t hb7 h
        refine py_ic (pc := 31) (len := 3) true rfl hb7 ?_
        refine py_its (pc := 41) (pc1 := 43) (lv1 := lv) (st1 := [.int (v3 ||| (Int32.ofInt 0))]) 2 (fun _ _ _ _ => rfl) ?_
        refine py_sin (pc := 43) (len := 1) (j := 3) rfl rfl hk (fun lv8 hk9 => ?_)
        have hk9 : lk lv8 [(3, .int (v3 ||| (Int32.ofInt 0))), (0, .ref 69), (2, .int v2), (4, .int v4)] := hk9
        refine py_inc (pc := 44) (len := 3) (j := 4) (n := 1) rfl rfl hk9 rfl (fun lv10 hk11 => ?_)
        have hk11 : lk lv10 [(4, .int (v4 + Int32.ofInt 1)), (3, .int (v3 ||| (Int32.ofInt 0))), (0, .ref 69), (2, .int v2)] := hk11
        refine py_its (pc := 47) (pc1 := 11) (lv1 := lv10) (st1 := []) 1 (fun _ _ _ _ => rfl) ?_
        exact ih (v3 ||| (Int32.ofInt 0)) (v4 + Int32.ofInt 1) lv10 _ hS ⟨lk_find hk11 rfl, lk_find hk11 rfl, lk_find hk11 rfl, lk_find hk11 rfl, trivial⟩ h
      | false =>
        have h := cd_f hb7 h
        refine py_ic (pc := 31) (len := 3) false rfl hb7 ?_
        refine py_its (pc := 34) (pc1 := 35) (lv1 := lv) (st1 := [.int (Int32.ofInt 1), .int v3]) 1 (fun _ _ _ _ => rfl) ?_
        refine py_il (pc := 35) (len := 2) (j := 4) rfl hk rfl ?_
        refine py_its (pc := 37) (pc1 := 43) (lv1 := lv) (st1 := [.int (v3 ||| ((Int32.ofInt 1) <<< (v4 &&& 31)))]) 3 (fun _ _ _ _ => rfl) ?_
        refine py_sin (pc := 43) (len := 1) (j := 3) rfl rfl hk (fun lv12 hk13 => ?_)
        have hk13 : lk lv12 [(3, .int (v3 ||| ((Int32.ofInt 1) <<< (v4 &&& 31)))), (0, .ref 69), (2, .int v2), (4, .int v4)] := hk13
        refine py_inc (pc := 44) (len := 3) (j := 4) (n := 1) rfl rfl hk13 rfl (fun lv14 hk15 => ?_)
        have hk15 : lk lv14 [(4, .int (v4 + Int32.ofInt 1)), (3, .int (v3 ||| ((Int32.ofInt 1) <<< (v4 &&& 31)))), (0, .ref 69), (2, .int v2)] := hk15
        refine py_its (pc := 47) (pc1 := 11) (lv1 := lv14) (st1 := []) 1 (fun _ _ _ _ => rfl) ?_
        exact ih (v3 ||| ((Int32.ofInt 1) <<< (v4 &&& 31))) (v4 + Int32.ofInt 1) lv14 _ hS ⟨lk_find hk15 rfl, lk_find hk15 rfl, lk_find hk15 rfl, lk_find hk15 rfl, trivial⟩ h
noncomputable def fn_M_satAt (a1 : Int32) (a2 : Int32) (hp : px_H) : Option (Int32 × px_H) :=
  (fn_M_looksAt (Int32.ofInt 2) a1 hp).bind fun q1 =>
  fn_M_satAt_L11 a2 q1 fu (Int32.ofInt 0) (Int32.ofInt 0)
theorem fx_M_satAt {a1 : Int32} {a2 : Int32} {hp : px_H} {res : Int32 × px_H} (hS : oS hp) (h : fn_M_satAt a1 a2 hp = some res) : px_C nm_T nm_P mi_M_satAt [.ref 69, .int a1, .int a2] hp (some (.int res.1)) res.2 ∧ oS res.2 := by
  unfold fn_M_satAt at h
  refine py_C (M := mm_M_satAt) rfl (Nat.le_of_ble_eq_true rfl) ?_
  show px_Y mm_M_satAt 0 [(0, .ref 69), (1, .int a1), (2, .int a2)] [] hp _ _
  refine py_its (pc := 0) (pc1 := 3) (lv1 := [(0, .ref 69), (1, .int a1), (2, .int a2)]) (st1 := [.int a1, .int (Int32.ofInt 2), .ref 69]) 3 (fun _ _ _ _ => rfl) ?_
  obtain ⟨q1, hq2, h⟩ := bd_e h
  obtain ⟨hC3, hS4⟩ := fx_M_looksAt hS hq2
  refine py_vi (pc := 3) (mi := mi_M_looksAt) (cs := [69]) (N := mm_M_looksAt) rfl rfl rfl rfl List.mem_cons_self hS rfl (Nat.le_of_ble_eq_true rfl) (Nat.le_of_ble_eq_true rfl) rfl rfl hC3 ?_
  show px_Y mm_M_satAt 6 [(0, .ref 69), (1, .int a1), (2, .int a2)] [] q1 _ _
  refine py_its (pc := 6) (pc1 := 11) (lv1 := [(4, .int (Int32.ofInt 0)), (3, .int (Int32.ofInt 0)), (0, .ref 69), (1, .int a1), (2, .int a2)]) (st1 := []) 4 (fun _ _ _ _ => rfl) ?_
  exact fl_M_satAt_L11 fu (Int32.ofInt 0) (Int32.ofInt 0) [(4, .int (Int32.ofInt 0)), (3, .int (Int32.ofInt 0)), (0, .ref 69), (1, .int a1), (2, .int a2)] _ hS4 ⟨rfl, rfl, rfl, rfl, trivial⟩ h
/-! M_notes -/
noncomputable def fb_M_notes_L6 (v1 : Int32) (rc : Int32 → px_H → Option (px_H)) (v2 : Int32) (hp : px_H) : Option (px_H) :=
  bif px_cmp .ge v2 (aI hp 96 (Int32.ofInt 2).toNatClampNeg) then
    (fn_M_comesBack hp).bind fun q6 =>
    some q6
  else
    (fn_M_satAt v2 v1 hp).bind fun q10 =>
    bif px_inR v2 3001 then
    sb (uI q10.2 98 v2.toNatClampNeg q10.1) fun h15 =>
    rc (v2 + Int32.ofInt 1) h15
    else none
noncomputable def fn_M_notes_L6 (v1 : Int32) : Nat → Int32 → px_H → Option (px_H)
  | 0 => fun _ _ => none
  | n + 1 => fb_M_notes_L6 v1 (fn_M_notes_L6 v1 n)
theorem fl_M_notes_L6 {v1 : Int32}  : ∀ (n : Nat) (v2 : Int32) (hp : px_H) (lv : List (Nat × Value)) (res : px_H), oS hp → lk lv [(0, .ref 69), (1, .int v1), (2, .int v2)] → fn_M_notes_L6 v1 n v2 hp = some res → px_Y mm_M_notes 6 lv [] hp none res := by
  intro n
  induction n with
  | zero =>
    intro v2 hp lv res hS hk h
    cases h
  | succ n ih =>
    intro v2 hp lv res hS hk h
    have h : fb_M_notes_L6 v1 (fn_M_notes_L6 v1 n) v2 hp = some res := h
    unfold fb_M_notes_L6 at h
    refine py_iln (pc := 6) (len := 1) (j := 2) rfl hk rfl ?_
    refine py_aln (pc := 7) (len := 1) (j := 0) rfl hk rfl ?_
    refine py_g1 96 (pc := 8) (len := 3) (cs := [69]) rfl rfl rfl List.mem_cons_self hS ?_
    refine py_its (pc := 11) (pc1 := 12) (lv1 := lv) (st1 := [.int (Int32.ofInt 2), .ref 96, .int v2]) 1 (fun _ _ _ _ => rfl) ?_
    refine py_ai (pc := 12) (len := 1) (cs := [96]) (t := 53) (n := 3) rfl rfl rfl rfl List.mem_cons_self hS ?_
    cases hb5 : px_cmp .ge v2 (aI hp 96 (Int32.ofInt 2).toNatClampNeg) with
    | true =>
      have h := cd_t hb5 h
      refine py_ic (pc := 13) (len := 3) true rfl hb5 ?_
      refine py_aln (pc := 34) (len := 1) (j := 0) rfl hk rfl ?_
      obtain ⟨q6, hq7, h⟩ := bd_e h
      obtain ⟨hC8, hS9⟩ := fx_M_comesBack hS hq7
      refine py_vi (pc := 35) (mi := mi_M_comesBack) (cs := [69]) (N := mm_M_comesBack) rfl rfl rfl rfl List.mem_cons_self hS rfl (Nat.le_of_ble_eq_true rfl) (Nat.le_of_ble_eq_true rfl) rfl rfl hC8 ?_
      show px_Y mm_M_notes 38 lv [] q6 _ _
      have h := Option.some.inj h
      subst h
      exact py_rt (pc := 38) (len := 1) rfl rfl hS9
    | false =>
      have h := cd_f hb5 h
      refine py_ic (pc := 13) (len := 3) false rfl hb5 ?_
      refine py_aln (pc := 16) (len := 1) (j := 0) rfl hk rfl ?_
      refine py_g1 98 (pc := 17) (len := 3) (cs := [69]) rfl rfl rfl List.mem_cons_self hS ?_
      refine py_iln (pc := 20) (len := 1) (j := 2) rfl hk rfl ?_
      refine py_aln (pc := 21) (len := 1) (j := 0) rfl hk rfl ?_
      refine py_iln (pc := 22) (len := 1) (j := 2) rfl hk rfl ?_
      refine py_iln (pc := 23) (len := 1) (j := 1) rfl hk rfl ?_
      obtain ⟨q10, hq11, h⟩ := bd_e h
      obtain ⟨hC12, hS13⟩ := fx_M_satAt hS hq11
      refine py_vi (pc := 24) (mi := mi_M_satAt) (cs := [69]) (N := mm_M_satAt) rfl rfl rfl rfl List.mem_cons_self hS rfl (Nat.le_of_ble_eq_true rfl) (Nat.le_of_ble_eq_true rfl) rfl rfl hC12 ?_
      show px_Y mm_M_notes 27 lv [.int q10.1, .int v2, .ref 98] q10.2 _ _
      obtain ⟨hi14, h⟩ := cd_n h
      have h := sb_e h
      refine py_si (pc := 27) (len := 1) (cs := [98]) (t := 55) (n := 3001) rfl rfl rfl hi14 List.mem_cons_self hS13 ?_
      have hS16 : oS (uI q10.2 98 v2.toNatClampNeg q10.1) := oS_uI (cs := [98]) (t := 55) (n := 3001) rfl List.mem_cons_self hS13
      generalize (uI q10.2 98 v2.toNatClampNeg q10.1) = h15 at h hS16 ⊢
      refine py_inc (pc := 28) (len := 3) (j := 2) (n := 1) rfl rfl hk rfl (fun lv17 hk18 => ?_)
      have hk18 : lk lv17 [(2, .int (v2 + Int32.ofInt 1)), (0, .ref 69), (1, .int v1)] := hk18
      refine py_its (pc := 31) (pc1 := 6) (lv1 := lv17) (st1 := []) 1 (fun _ _ _ _ => rfl) ?_
      exact ih (v2 + Int32.ofInt 1) h15 lv17 _ hS16 ⟨lk_find hk18 rfl, lk_find hk18 rfl, lk_find hk18 rfl, trivial⟩ h
noncomputable def fn_M_notes (a1 : Int32) (hp : px_H) : Option (px_H) :=
  (fn_M_remembers hp).bind fun q1 =>
  fn_M_notes_L6 a1 fu (Int32.ofInt 0) q1
theorem fx_M_notes {a1 : Int32} {hp : px_H} {res : px_H} (hS : oS hp) (h : fn_M_notes a1 hp = some res) : px_C nm_T nm_P mi_M_notes [.ref 69, .int a1] hp none res ∧ oS res := by
  unfold fn_M_notes at h
  refine py_C (M := mm_M_notes) rfl (Nat.le_of_ble_eq_true rfl) ?_
  show px_Y mm_M_notes 0 [(0, .ref 69), (1, .int a1)] [] hp _ _
  refine py_its (pc := 0) (pc1 := 1) (lv1 := [(0, .ref 69), (1, .int a1)]) (st1 := [.ref 69]) 1 (fun _ _ _ _ => rfl) ?_
  obtain ⟨q1, hq2, h⟩ := bd_e h
  obtain ⟨hC3, hS4⟩ := fx_M_remembers hS hq2
  refine py_vi (pc := 1) (mi := mi_M_remembers) (cs := [69]) (N := mm_M_remembers) rfl rfl rfl rfl List.mem_cons_self hS rfl (Nat.le_of_ble_eq_true rfl) (Nat.le_of_ble_eq_true rfl) rfl rfl hC3 ?_
  show px_Y mm_M_notes 4 [(0, .ref 69), (1, .int a1)] [] q1 _ _
  refine py_its (pc := 4) (pc1 := 6) (lv1 := [(2, .int (Int32.ofInt 0)), (0, .ref 69), (1, .int a1)]) (st1 := []) 2 (fun _ _ _ _ => rfl) ?_
  exact fl_M_notes_L6 fu (Int32.ofInt 0) q1 [(2, .int (Int32.ofInt 0)), (0, .ref 69), (1, .int a1)] _ hS4 ⟨rfl, rfl, rfl, trivial⟩ h
/-! M_asks -/
noncomputable def fn_M_asks (a1 : Int32) (hp : px_H) : Option (Int32 × px_H) :=
  (fn_M_reachesNow a1 hp).bind fun q1 =>
  bif px_cmp .ne q1.1 0 then
    (fn_M_notes a1 q1.2).bind fun q6 =>
    some ((Int32.ofInt 1), q6)
  else
    some ((Int32.ofInt 0), q1.2)
theorem fx_M_asks {a1 : Int32} {hp : px_H} {res : Int32 × px_H} (hS : oS hp) (h : fn_M_asks a1 hp = some res) : px_C nm_T nm_P mi_M_asks [.ref 69, .int a1] hp (some (.int res.1)) res.2 ∧ oS res.2 := by
  unfold fn_M_asks at h
  refine py_C (M := mm_M_asks) rfl (Nat.le_of_ble_eq_true rfl) ?_
  show px_Y mm_M_asks 0 [(0, .ref 69), (1, .int a1)] [] hp _ _
  refine py_its (pc := 0) (pc1 := 2) (lv1 := [(0, .ref 69), (1, .int a1)]) (st1 := [.int a1, .ref 69]) 2 (fun _ _ _ _ => rfl) ?_
  obtain ⟨q1, hq2, h⟩ := bd_e h
  obtain ⟨hC3, hS4⟩ := fx_M_reachesNow hS hq2
  refine py_vi (pc := 2) (mi := mi_M_reachesNow) (cs := [69]) (N := mm_M_reachesNow) rfl rfl rfl rfl List.mem_cons_self hS rfl (Nat.le_of_ble_eq_true rfl) (Nat.le_of_ble_eq_true rfl) rfl rfl hC3 ?_
  show px_Y mm_M_asks 5 [(0, .ref 69), (1, .int a1)] [.int q1.1] q1.2 _ _
  cases hb5 : px_cmp .ne q1.1 0 with
  | true =>
    have h := cd_t hb5 h
    refine py_if (pc := 5) (len := 3) true rfl hb5 ?_
    refine py_its (pc := 10) (pc1 := 12) (lv1 := [(0, .ref 69), (1, .int a1)]) (st1 := [.int a1, .ref 69]) 2 (fun _ _ _ _ => rfl) ?_
    obtain ⟨q6, hq7, h⟩ := bd_e h
    obtain ⟨hC8, hS9⟩ := fx_M_notes hS4 hq7
    refine py_vi (pc := 12) (mi := mi_M_notes) (cs := [69]) (N := mm_M_notes) rfl rfl rfl rfl List.mem_cons_self hS4 rfl (Nat.le_of_ble_eq_true rfl) (Nat.le_of_ble_eq_true rfl) rfl rfl hC8 ?_
    show px_Y mm_M_asks 15 [(0, .ref 69), (1, .int a1)] [] q6 _ _
    refine py_its (pc := 15) (pc1 := 16) (lv1 := [(0, .ref 69), (1, .int a1)]) (st1 := [.int (Int32.ofInt 1)]) 1 (fun _ _ _ _ => rfl) ?_
    have h := Option.some.inj h
    subst h
    exact py_ir (pc := 16) (len := 1) (ty := .boolean) rfl rfl (by decide) hS9
  | false =>
    have h := cd_f hb5 h
    refine py_if (pc := 5) (len := 3) false rfl hb5 ?_
    refine py_its (pc := 8) (pc1 := 9) (lv1 := [(0, .ref 69), (1, .int a1)]) (st1 := [.int (Int32.ofInt 0)]) 1 (fun _ _ _ _ => rfl) ?_
    have h := Option.some.inj h
    subst h
    exact py_ir (pc := 9) (len := 1) (ty := .boolean) rfl rfl (by decide) hS4
/-! M_endPart -/
noncomputable def fn_M_endPart (a1 : Int32) (hp : px_H) : Option (Int64) :=
  bif px_inR ((Int16.ofInt 6002).toInt32 + a1) 9003 then
  some (aL hp 95 ((Int16.ofInt 6002).toInt32 + a1).toNatClampNeg)
  else none
theorem fx_M_endPart {a1 : Int32} {hp : px_H} {res : Int64} (hS : oS hp) (h : fn_M_endPart a1 hp = some res) : px_C nm_T nm_P mi_M_endPart [.ref 69, .int a1] hp (some (.long res)) hp ∧ oS hp := by
  unfold fn_M_endPart at h
  refine py_C (M := mm_M_endPart) rfl (Nat.le_of_ble_eq_true rfl) ?_
  show px_Y mm_M_endPart 0 [(0, .ref 69), (1, .int a1)] [] hp _ _
  refine py_its (pc := 0) (pc1 := 1) (lv1 := [(0, .ref 69), (1, .int a1)]) (st1 := [.ref 69]) 1 (fun _ _ _ _ => rfl) ?_
  refine py_g1 95 (pc := 1) (len := 3) (cs := [69]) rfl rfl rfl List.mem_cons_self hS ?_
  refine py_its (pc := 4) (pc1 := 9) (lv1 := [(0, .ref 69), (1, .int a1)]) (st1 := [.int ((Int16.ofInt 6002).toInt32 + a1), .ref 95]) 3 (fun _ _ _ _ => rfl) ?_
  obtain ⟨hi1, h⟩ := cd_n h
  refine py_al (pc := 9) (len := 1) (cs := [95]) (t := 52) (n := 9003) rfl rfl rfl hi1 List.mem_cons_self hS ?_
  have h := Option.some.inj h
  subst h
  exact py_lr (pc := 10) (len := 1) rfl rfl hS
/-! M_anyOf -/
noncomputable def fb_M_anyOf_L5 (v1 : Int32) (hp : px_H) (rc : Int64 → Int32 → Option (Int64)) (v2 : Int64) (v4 : Int32) : Option (Int64) :=
  bif px_cmp .ge v4 (aI hp 96 (Int32.ofInt 2).toNatClampNeg) then
    some v2
  else
    bif px_inR v4 3001 then
    bif px_cmp .eq ((aI hp 98 v4.toNatClampNeg) &&& v1) 0 then
      rc (v2 + (Int64.ofNat 0)) (v4 + Int32.ofInt 1)
    else
      (fn_M_endPart v4 hp).bind fun q8 =>
      rc (v2 + q8) (v4 + Int32.ofInt 1)
    else none
noncomputable def fn_M_anyOf_L5 (v1 : Int32) (hp : px_H) : Nat → Int64 → Int32 → Option (Int64)
  | 0 => fun _ _ => none
  | n + 1 => fb_M_anyOf_L5 v1 hp (fn_M_anyOf_L5 v1 hp n)
theorem fl_M_anyOf_L5 {v1 : Int32} {hp : px_H}  : ∀ (n : Nat) (v2 : Int64) (v4 : Int32) (lv : List (Nat × Value)) (res : Int64), oS hp → lk lv [(0, .ref 69), (1, .int v1), (2, .long v2), (4, .int v4)] → fn_M_anyOf_L5 v1 hp n v2 v4 = some res → px_Y mm_M_anyOf 5 lv [] hp (some (.long res)) hp := by
  intro n
  induction n with
  | zero =>
    intro v2 v4 lv res hS hk h
    cases h
  | succ n ih =>
    intro v2 v4 lv res hS hk h
    have h : fb_M_anyOf_L5 v1 hp (fn_M_anyOf_L5 v1 hp n) v2 v4 = some res := h
    unfold fb_M_anyOf_L5 at h
    refine py_il (pc := 5) (len := 2) (j := 4) rfl hk rfl ?_
    refine py_aln (pc := 7) (len := 1) (j := 0) rfl hk rfl ?_
    refine py_g1 96 (pc := 8) (len := 3) (cs := [69]) rfl rfl rfl List.mem_cons_self hS ?_
    refine py_its (pc := 11) (pc1 := 12) (lv1 := lv) (st1 := [.int (Int32.ofInt 2), .ref 96, .int v4]) 1 (fun _ _ _ _ => rfl) ?_
    refine py_ai (pc := 12) (len := 1) (cs := [96]) (t := 53) (n := 3) rfl rfl rfl rfl List.mem_cons_self hS ?_
    cases hb1 : px_cmp .ge v4 (aI hp 96 (Int32.ofInt 2).toNatClampNeg) with
    | true =>
      have h := cd_t hb1 h
      refine py_ic (pc := 13) (len := 3) true rfl hb1 ?_
      refine py_lln (pc := 47) (len := 1) (j := 2) rfl hk rfl ?_
      have h := Option.some.inj h
      subst h
      exact py_lr (pc := 48) (len := 1) rfl rfl hS
    | false =>
      have h := cd_f hb1 h
      refine py_ic (pc := 13) (len := 3) false rfl hb1 ?_
      refine py_lln (pc := 16) (len := 1) (j := 2) rfl hk rfl ?_
      refine py_aln (pc := 17) (len := 1) (j := 0) rfl hk rfl ?_
      refine py_g1 98 (pc := 18) (len := 3) (cs := [69]) rfl rfl rfl List.mem_cons_self hS ?_
      refine py_il (pc := 21) (len := 2) (j := 4) rfl hk rfl ?_
      obtain ⟨hi2, h⟩ := cd_n h
      refine py_ai (pc := 23) (len := 1) (cs := [98]) (t := 55) (n := 3001) rfl rfl rfl hi2 List.mem_cons_self hS ?_
      refine py_iln (pc := 24) (len := 1) (j := 1) rfl hk rfl ?_
      refine py_its (pc := 25) (pc1 := 26) (lv1 := lv) (st1 := [.int ((aI hp 98 v4.toNatClampNeg) &&& v1), .long v2]) 1 (fun _ _ _ _ => rfl) ?_
      cases hb3 : px_cmp .eq ((aI hp 98 v4.toNatClampNeg) &&& v1) 0 with
      | true =>
        have h := cd_t hb3 h
        refine py_if (pc := 26) (len := 3) true rfl hb3 ?_
        refine py_its (pc := 38) (pc1 := 40) (lv1 := lv) (st1 := [.long (v2 + (Int64.ofNat 0))]) 2 (fun _ _ _ _ => rfl) ?_
        refine py_sln (pc := 40) (len := 1) (j := 2) rfl rfl hk (fun lv4 hk5 => ?_)
        have hk5 : lk lv4 [(2, .long (v2 + (Int64.ofNat 0))), (0, .ref 69), (1, .int v1), (4, .int v4)] := hk5
        refine py_inc (pc := 41) (len := 3) (j := 4) (n := 1) rfl rfl hk5 rfl (fun lv6 hk7 => ?_)
        have hk7 : lk lv6 [(4, .int (v4 + Int32.ofInt 1)), (2, .long (v2 + (Int64.ofNat 0))), (0, .ref 69), (1, .int v1)] := hk7
        refine py_its (pc := 44) (pc1 := 5) (lv1 := lv6) (st1 := []) 1 (fun _ _ _ _ => rfl) ?_
        exact ih (v2 + (Int64.ofNat 0)) (v4 + Int32.ofInt 1) lv6 _ hS ⟨lk_find hk7 rfl, lk_find hk7 rfl, lk_find hk7 rfl, lk_find hk7 rfl, trivial⟩ h
      | false =>
        have h := cd_f hb3 h
        refine py_if (pc := 26) (len := 3) false rfl hb3 ?_
        refine py_aln (pc := 29) (len := 1) (j := 0) rfl hk rfl ?_
        refine py_il (pc := 30) (len := 2) (j := 4) rfl hk rfl ?_
        obtain ⟨q8, hq9, h⟩ := bd_e h
        have hC10 := (fx_M_endPart hS hq9).1
        refine py_vi (pc := 32) (mi := mi_M_endPart) (cs := [69]) (N := mm_M_endPart) rfl rfl rfl rfl List.mem_cons_self hS rfl (Nat.le_of_ble_eq_true rfl) (Nat.le_of_ble_eq_true rfl) rfl rfl hC10 ?_
        show px_Y mm_M_anyOf 35 lv [.long q8, .long v2] hp _ _
        refine py_its (pc := 35) (pc1 := 40) (lv1 := lv) (st1 := [.long (v2 + q8)]) 2 (fun _ _ _ _ => rfl) ?_
        refine py_sln (pc := 40) (len := 1) (j := 2) rfl rfl hk (fun lv11 hk12 => ?_)
        have hk12 : lk lv11 [(2, .long (v2 + q8)), (0, .ref 69), (1, .int v1), (4, .int v4)] := hk12
        refine py_inc (pc := 41) (len := 3) (j := 4) (n := 1) rfl rfl hk12 rfl (fun lv13 hk14 => ?_)
        have hk14 : lk lv13 [(4, .int (v4 + Int32.ofInt 1)), (2, .long (v2 + q8)), (0, .ref 69), (1, .int v1)] := hk14
        refine py_its (pc := 44) (pc1 := 5) (lv1 := lv13) (st1 := []) 1 (fun _ _ _ _ => rfl) ?_
        exact ih (v2 + q8) (v4 + Int32.ofInt 1) lv13 _ hS ⟨lk_find hk14 rfl, lk_find hk14 rfl, lk_find hk14 rfl, lk_find hk14 rfl, trivial⟩ h
noncomputable def fn_M_anyOf (a1 : Int32) (hp : px_H) : Option (Int64) :=
  fn_M_anyOf_L5 a1 hp fu (Int64.ofNat 0) (Int32.ofInt 0)
theorem fx_M_anyOf {a1 : Int32} {hp : px_H} {res : Int64} (hS : oS hp) (h : fn_M_anyOf a1 hp = some res) : px_C nm_T nm_P mi_M_anyOf [.ref 69, .int a1] hp (some (.long res)) hp ∧ oS hp := by
  unfold fn_M_anyOf at h
  refine py_C (M := mm_M_anyOf) rfl (Nat.le_of_ble_eq_true rfl) ?_
  show px_Y mm_M_anyOf 0 [(0, .ref 69), (1, .int a1)] [] hp _ _
  refine py_its (pc := 0) (pc1 := 5) (lv1 := [(4, .int (Int32.ofInt 0)), (2, .long (Int64.ofNat 0)), (0, .ref 69), (1, .int a1)]) (st1 := []) 4 (fun _ _ _ _ => rfl) ?_
  exact fl_M_anyOf_L5 fu (Int64.ofNat 0) (Int32.ofInt 0) [(4, .int (Int32.ofInt 0)), (2, .long (Int64.ofNat 0)), (0, .ref 69), (1, .int a1)] _ hS ⟨rfl, rfl, rfl, rfl, trivial⟩ h
/-! M_chance -/
noncomputable def fn_M_chance (a1 : Int32) (a2 : Int32) (hp : px_H) : Option (Int32 × px_H) :=
  sb (wF hp 69 0 (.int (Int32.ofInt 0))) fun h1 =>
  (fn_M_isPerson a1 h1).bind fun q3 =>
  bif px_cmp .eq q3 0 then
    some ((Int32.ofInt (-1)), h1)
  else
    (fn_M_isLeft a2 h1).bind fun q7 =>
    bif px_cmp .ne q7 0 then
      (fn_M_asks a2 h1).bind fun q11 =>
      bif px_cmp .ne q11.1 0 then
        sb (wF q11.2 69 1 (.int (Int32.ofInt 0))) fun h16 =>
        (fn_M_anyOf ((Int32.ofInt 1) <<< (a1 &&& 31)) h16).bind fun q18 =>
        (fn_M_enters q18 h16).bind fun q21 =>
        some ((Int32.ofInt 0), q21)
      else
        some ((Int8.ofInt (-3)).toInt32, q11.2)
    else
      some ((Int32.ofInt (-1)), h1)
theorem fx_M_chance {a1 : Int32} {a2 : Int32} {hp : px_H} {res : Int32 × px_H} (hS : oS hp) (h : fn_M_chance a1 a2 hp = some res) : px_C nm_T nm_P mi_M_chance [.ref 69, .int a1, .int a2] hp (some (.int res.1)) res.2 ∧ oS res.2 := by
  unfold fn_M_chance at h
  refine py_C (M := mm_M_chance) rfl (Nat.le_of_ble_eq_true rfl) ?_
  show px_Y mm_M_chance 0 [(0, .ref 69), (1, .int a1), (2, .int a2)] [] hp _ _
  refine py_its (pc := 0) (pc1 := 2) (lv1 := [(0, .ref 69), (1, .int a1), (2, .int a2)]) (st1 := [.int (Int32.ofInt 0), .ref 69]) 2 (fun _ _ _ _ => rfl) ?_
  have h := sb_e h
  refine py_pI (pc := 2) (len := 3) (cs := [69]) rfl rfl rfl List.mem_cons_self hS rfl rfl rfl rfl ?_
  have hS2 : oS (wF hp 69 0 (.int (Int32.ofInt 0))) := oS_wI (cs := [69]) (ci := 9) rfl List.mem_cons_self hS
  generalize (wF hp 69 0 (.int (Int32.ofInt 0))) = h1 at h hS2 ⊢
  refine py_its (pc := 5) (pc1 := 7) (lv1 := [(0, .ref 69), (1, .int a1), (2, .int a2)]) (st1 := [.int a1, .ref 69]) 2 (fun _ _ _ _ => rfl) ?_
  obtain ⟨q3, hq4, h⟩ := bd_e h
  have hC5 := (fx_M_isPerson hS2 hq4).1
  refine py_vi (pc := 7) (mi := mi_M_isPerson) (cs := [69]) (N := mm_M_isPerson) rfl rfl rfl rfl List.mem_cons_self hS2 rfl (Nat.le_of_ble_eq_true rfl) (Nat.le_of_ble_eq_true rfl) rfl rfl hC5 ?_
  show px_Y mm_M_chance 10 [(0, .ref 69), (1, .int a1), (2, .int a2)] [.int q3] h1 _ _
  cases hb6 : px_cmp .eq q3 0 with
  | true =>
    have h := cd_t hb6 h
    refine py_if (pc := 10) (len := 3) true rfl hb6 ?_
    refine py_its (pc := 21) (pc1 := 22) (lv1 := [(0, .ref 69), (1, .int a1), (2, .int a2)]) (st1 := [.int (Int32.ofInt (-1))]) 1 (fun _ _ _ _ => rfl) ?_
    have h := Option.some.inj h
    subst h
    exact py_ir (pc := 22) (len := 1) (ty := .int) rfl rfl rfl hS2
  | false =>
    have h := cd_f hb6 h
    refine py_if (pc := 10) (len := 3) false rfl hb6 ?_
    refine py_its (pc := 13) (pc1 := 15) (lv1 := [(0, .ref 69), (1, .int a1), (2, .int a2)]) (st1 := [.int a2, .ref 69]) 2 (fun _ _ _ _ => rfl) ?_
    obtain ⟨q7, hq8, h⟩ := bd_e h
    have hC9 := (fx_M_isLeft hS2 hq8).1
    refine py_vi (pc := 15) (mi := mi_M_isLeft) (cs := [69]) (N := mm_M_isLeft) rfl rfl rfl rfl List.mem_cons_self hS2 rfl (Nat.le_of_ble_eq_true rfl) (Nat.le_of_ble_eq_true rfl) rfl rfl hC9 ?_
    show px_Y mm_M_chance 18 [(0, .ref 69), (1, .int a1), (2, .int a2)] [.int q7] h1 _ _
    cases hb10 : px_cmp .ne q7 0 with
    | true =>
      have h := cd_t hb10 h
      refine py_if (pc := 18) (len := 3) true rfl hb10 ?_
      refine py_its (pc := 23) (pc1 := 25) (lv1 := [(0, .ref 69), (1, .int a1), (2, .int a2)]) (st1 := [.int a2, .ref 69]) 2 (fun _ _ _ _ => rfl) ?_
      obtain ⟨q11, hq12, h⟩ := bd_e h
      obtain ⟨hC13, hS14⟩ := fx_M_asks hS2 hq12
      refine py_vi (pc := 25) (mi := mi_M_asks) (cs := [69]) (N := mm_M_asks) rfl rfl rfl rfl List.mem_cons_self hS2 rfl (Nat.le_of_ble_eq_true rfl) (Nat.le_of_ble_eq_true rfl) rfl rfl hC13 ?_
      show px_Y mm_M_chance 28 [(0, .ref 69), (1, .int a1), (2, .int a2)] [.int q11.1] q11.2 _ _
      cases hb15 : px_cmp .ne q11.1 0 with
      | true =>
        have h := cd_t hb15 h
        refine py_if (pc := 28) (len := 3) true rfl hb15 ?_
        refine py_its (pc := 34) (pc1 := 36) (lv1 := [(0, .ref 69), (1, .int a1), (2, .int a2)]) (st1 := [.int (Int32.ofInt 0), .ref 69]) 2 (fun _ _ _ _ => rfl) ?_
        have h := sb_e h
        refine py_pI (pc := 36) (len := 3) (cs := [69]) rfl rfl rfl List.mem_cons_self hS14 rfl rfl rfl rfl ?_
        have hS17 : oS (wF q11.2 69 1 (.int (Int32.ofInt 0))) := oS_wI (cs := [69]) (ci := 9) rfl List.mem_cons_self hS14
        generalize (wF q11.2 69 1 (.int (Int32.ofInt 0))) = h16 at h hS17 ⊢
        refine py_its (pc := 39) (pc1 := 44) (lv1 := [(0, .ref 69), (1, .int a1), (2, .int a2)]) (st1 := [.int ((Int32.ofInt 1) <<< (a1 &&& 31)), .ref 69, .ref 69]) 5 (fun _ _ _ _ => rfl) ?_
        obtain ⟨q18, hq19, h⟩ := bd_e h
        have hC20 := (fx_M_anyOf hS17 hq19).1
        refine py_vi (pc := 44) (mi := mi_M_anyOf) (cs := [69]) (N := mm_M_anyOf) rfl rfl rfl rfl List.mem_cons_self hS17 rfl (Nat.le_of_ble_eq_true rfl) (Nat.le_of_ble_eq_true rfl) rfl rfl hC20 ?_
        show px_Y mm_M_chance 47 [(0, .ref 69), (1, .int a1), (2, .int a2)] [.long q18, .ref 69] h16 _ _
        obtain ⟨q21, hq22, h⟩ := bd_e h
        obtain ⟨hC23, hS24⟩ := fx_M_enters hS17 hq22
        refine py_vi (pc := 47) (mi := mi_M_enters) (cs := [69]) (N := mm_M_enters) rfl rfl rfl rfl List.mem_cons_self hS17 rfl (Nat.le_of_ble_eq_true rfl) (Nat.le_of_ble_eq_true rfl) rfl rfl hC23 ?_
        show px_Y mm_M_chance 50 [(0, .ref 69), (1, .int a1), (2, .int a2)] [] q21 _ _
        refine py_its (pc := 50) (pc1 := 51) (lv1 := [(0, .ref 69), (1, .int a1), (2, .int a2)]) (st1 := [.int (Int32.ofInt 0)]) 1 (fun _ _ _ _ => rfl) ?_
        have h := Option.some.inj h
        subst h
        exact py_ir (pc := 51) (len := 1) (ty := .int) rfl rfl rfl hS24
      | false =>
        have h := cd_f hb15 h
        refine py_if (pc := 28) (len := 3) false rfl hb15 ?_
        refine py_its (pc := 31) (pc1 := 33) (lv1 := [(0, .ref 69), (1, .int a1), (2, .int a2)]) (st1 := [.int (Int8.ofInt (-3)).toInt32]) 1 (fun _ _ _ _ => rfl) ?_
        have h := Option.some.inj h
        subst h
        exact py_ir (pc := 33) (len := 1) (ty := .int) rfl rfl rfl hS14
    | false =>
      have h := cd_f hb10 h
      refine py_if (pc := 18) (len := 3) false rfl hb10 ?_
      refine py_its (pc := 21) (pc1 := 22) (lv1 := [(0, .ref 69), (1, .int a1), (2, .int a2)]) (st1 := [.int (Int32.ofInt (-1))]) 1 (fun _ _ _ _ => rfl) ?_
      have h := Option.some.inj h
      subst h
      exact py_ir (pc := 22) (len := 1) (ty := .int) rfl rfl rfl hS2
/-! M_each -/
noncomputable def fb_M_each_L33  (rc : Int32 → px_H → Option (Int32 × px_H)) (v2 : Int32) (hp : px_H) : Option (Int32 × px_H) :=
  bif px_cmp .ge v2 (gI hp 69 3) then
    some ((Int32.ofInt 0), hp)
  else
    (fn_M_anyOf ((Int32.ofInt 1) <<< (v2 &&& 31)) hp).bind fun q15 =>
    (fn_M_enters q15 hp).bind fun q18 =>
    rc (v2 + Int32.ofInt 1) q18
noncomputable def fn_M_each_L33  : Nat → Int32 → px_H → Option (Int32 × px_H)
  | 0 => fun _ _ => none
  | n + 1 => fb_M_each_L33  (fn_M_each_L33  n)
theorem fl_M_each_L33   : ∀ (n : Nat) (v2 : Int32) (hp : px_H) (lv : List (Nat × Value)) (res : Int32 × px_H), oS hp → lk lv [(0, .ref 69), (2, .int v2)] → fn_M_each_L33  n v2 hp = some res → px_Y mm_M_each 33 lv [] hp (some (.int res.1)) res.2 := by
  intro n
  induction n with
  | zero =>
    intro v2 hp lv res hS hk h
    cases h
  | succ n ih =>
    intro v2 hp lv res hS hk h
    have h : fb_M_each_L33  (fn_M_each_L33  n) v2 hp = some res := h
    unfold fb_M_each_L33 at h
    refine py_iln (pc := 33) (len := 1) (j := 2) rfl hk rfl ?_
    refine py_aln (pc := 34) (len := 1) (j := 0) rfl hk rfl ?_
    refine py_gI (pc := 35) (len := 3) (cs := [69]) rfl rfl rfl List.mem_cons_self hS ?_
    cases hb14 : px_cmp .ge v2 (gI hp 69 3) with
    | true =>
      have h := cd_t hb14 h
      refine py_ic (pc := 38) (len := 3) true rfl hb14 ?_
      refine py_its (pc := 58) (pc1 := 59) (lv1 := lv) (st1 := [.int (Int32.ofInt 0)]) 1 (fun _ _ _ _ => rfl) ?_
      have h := Option.some.inj h
      subst h
      exact py_ir (pc := 59) (len := 1) (ty := .int) rfl rfl rfl hS
    | false =>
      have h := cd_f hb14 h
      refine py_ic (pc := 38) (len := 3) false rfl hb14 ?_
      refine py_aln (pc := 41) (len := 1) (j := 0) rfl hk rfl ?_
      refine py_aln (pc := 42) (len := 1) (j := 0) rfl hk rfl ?_
      refine py_its (pc := 43) (pc1 := 44) (lv1 := lv) (st1 := [.int (Int32.ofInt 1), .ref 69, .ref 69]) 1 (fun _ _ _ _ => rfl) ?_
      refine py_iln (pc := 44) (len := 1) (j := 2) rfl hk rfl ?_
      refine py_its (pc := 45) (pc1 := 46) (lv1 := lv) (st1 := [.int ((Int32.ofInt 1) <<< (v2 &&& 31)), .ref 69, .ref 69]) 1 (fun _ _ _ _ => rfl) ?_
      obtain ⟨q15, hq16, h⟩ := bd_e h
      have hC17 := (fx_M_anyOf hS hq16).1
      refine py_vi (pc := 46) (mi := mi_M_anyOf) (cs := [69]) (N := mm_M_anyOf) rfl rfl rfl rfl List.mem_cons_self hS rfl (Nat.le_of_ble_eq_true rfl) (Nat.le_of_ble_eq_true rfl) rfl rfl hC17 ?_
      show px_Y mm_M_each 49 lv [.long q15, .ref 69] hp _ _
      obtain ⟨q18, hq19, h⟩ := bd_e h
      obtain ⟨hC20, hS21⟩ := fx_M_enters hS hq19
      refine py_vi (pc := 49) (mi := mi_M_enters) (cs := [69]) (N := mm_M_enters) rfl rfl rfl rfl List.mem_cons_self hS rfl (Nat.le_of_ble_eq_true rfl) (Nat.le_of_ble_eq_true rfl) rfl rfl hC20 ?_
      show px_Y mm_M_each 52 lv [] q18 _ _
      refine py_inc (pc := 52) (len := 3) (j := 2) (n := 1) rfl rfl hk rfl (fun lv22 hk23 => ?_)
      have hk23 : lk lv22 [(2, .int (v2 + Int32.ofInt 1)), (0, .ref 69)] := hk23
      refine py_its (pc := 55) (pc1 := 33) (lv1 := lv22) (st1 := []) 1 (fun _ _ _ _ => rfl) ?_
      exact ih (v2 + Int32.ofInt 1) q18 lv22 _ hS21 ⟨lk_find hk23 rfl, lk_find hk23 rfl, trivial⟩ h
noncomputable def fn_M_each (a1 : Int32) (hp : px_H) : Option (Int32 × px_H) :=
  sb (wF hp 69 0 (.int (Int32.ofInt 0))) fun h1 =>
  (fn_M_isLeft a1 h1).bind fun q3 =>
  bif px_cmp .ne q3 0 then
    (fn_M_asks a1 h1).bind fun q7 =>
    bif px_cmp .ne q7.1 0 then
      sb (wF q7.2 69 1 (.int (Int32.ofInt 0))) fun h12 =>
      fn_M_each_L33 fu (Int32.ofInt 0) h12
    else
      some ((Int8.ofInt (-3)).toInt32, q7.2)
  else
    some ((Int32.ofInt (-1)), h1)
theorem fx_M_each {a1 : Int32} {hp : px_H} {res : Int32 × px_H} (hS : oS hp) (h : fn_M_each a1 hp = some res) : px_C nm_T nm_P mi_M_each [.ref 69, .int a1] hp (some (.int res.1)) res.2 ∧ oS res.2 := by
  unfold fn_M_each at h
  refine py_C (M := mm_M_each) rfl (Nat.le_of_ble_eq_true rfl) ?_
  show px_Y mm_M_each 0 [(0, .ref 69), (1, .int a1)] [] hp _ _
  refine py_its (pc := 0) (pc1 := 2) (lv1 := [(0, .ref 69), (1, .int a1)]) (st1 := [.int (Int32.ofInt 0), .ref 69]) 2 (fun _ _ _ _ => rfl) ?_
  have h := sb_e h
  refine py_pI (pc := 2) (len := 3) (cs := [69]) rfl rfl rfl List.mem_cons_self hS rfl rfl rfl rfl ?_
  have hS2 : oS (wF hp 69 0 (.int (Int32.ofInt 0))) := oS_wI (cs := [69]) (ci := 9) rfl List.mem_cons_self hS
  generalize (wF hp 69 0 (.int (Int32.ofInt 0))) = h1 at h hS2 ⊢
  refine py_its (pc := 5) (pc1 := 7) (lv1 := [(0, .ref 69), (1, .int a1)]) (st1 := [.int a1, .ref 69]) 2 (fun _ _ _ _ => rfl) ?_
  obtain ⟨q3, hq4, h⟩ := bd_e h
  have hC5 := (fx_M_isLeft hS2 hq4).1
  refine py_vi (pc := 7) (mi := mi_M_isLeft) (cs := [69]) (N := mm_M_isLeft) rfl rfl rfl rfl List.mem_cons_self hS2 rfl (Nat.le_of_ble_eq_true rfl) (Nat.le_of_ble_eq_true rfl) rfl rfl hC5 ?_
  show px_Y mm_M_each 10 [(0, .ref 69), (1, .int a1)] [.int q3] h1 _ _
  cases hb6 : px_cmp .ne q3 0 with
  | true =>
    have h := cd_t hb6 h
    refine py_if (pc := 10) (len := 3) true rfl hb6 ?_
    refine py_its (pc := 15) (pc1 := 17) (lv1 := [(0, .ref 69), (1, .int a1)]) (st1 := [.int a1, .ref 69]) 2 (fun _ _ _ _ => rfl) ?_
    obtain ⟨q7, hq8, h⟩ := bd_e h
    obtain ⟨hC9, hS10⟩ := fx_M_asks hS2 hq8
    refine py_vi (pc := 17) (mi := mi_M_asks) (cs := [69]) (N := mm_M_asks) rfl rfl rfl rfl List.mem_cons_self hS2 rfl (Nat.le_of_ble_eq_true rfl) (Nat.le_of_ble_eq_true rfl) rfl rfl hC9 ?_
    show px_Y mm_M_each 20 [(0, .ref 69), (1, .int a1)] [.int q7.1] q7.2 _ _
    cases hb11 : px_cmp .ne q7.1 0 with
    | true =>
      have h := cd_t hb11 h
      refine py_if (pc := 20) (len := 3) true rfl hb11 ?_
      refine py_its (pc := 26) (pc1 := 28) (lv1 := [(0, .ref 69), (1, .int a1)]) (st1 := [.int (Int32.ofInt 0), .ref 69]) 2 (fun _ _ _ _ => rfl) ?_
      have h := sb_e h
      refine py_pI (pc := 28) (len := 3) (cs := [69]) rfl rfl rfl List.mem_cons_self hS10 rfl rfl rfl rfl ?_
      have hS13 : oS (wF q7.2 69 1 (.int (Int32.ofInt 0))) := oS_wI (cs := [69]) (ci := 9) rfl List.mem_cons_self hS10
      generalize (wF q7.2 69 1 (.int (Int32.ofInt 0))) = h12 at h hS13 ⊢
      refine py_its (pc := 31) (pc1 := 33) (lv1 := [(2, .int (Int32.ofInt 0)), (0, .ref 69), (1, .int a1)]) (st1 := []) 2 (fun _ _ _ _ => rfl) ?_
      exact fl_M_each_L33 fu (Int32.ofInt 0) h12 [(2, .int (Int32.ofInt 0)), (0, .ref 69), (1, .int a1)] _ hS13 ⟨rfl, rfl, trivial⟩ h
    | false =>
      have h := cd_f hb11 h
      refine py_if (pc := 20) (len := 3) false rfl hb11 ?_
      refine py_its (pc := 23) (pc1 := 25) (lv1 := [(0, .ref 69), (1, .int a1)]) (st1 := [.int (Int8.ofInt (-3)).toInt32]) 1 (fun _ _ _ _ => rfl) ?_
      have h := Option.some.inj h
      subst h
      exact py_ir (pc := 25) (len := 1) (ty := .int) rfl rfl rfl hS10
  | false =>
    have h := cd_f hb6 h
    refine py_if (pc := 10) (len := 3) false rfl hb6 ?_
    refine py_its (pc := 13) (pc1 := 14) (lv1 := [(0, .ref 69), (1, .int a1)]) (st1 := [.int (Int32.ofInt (-1))]) 1 (fun _ _ _ _ => rfl) ?_
    have h := Option.some.inj h
    subst h
    exact py_ir (pc := 14) (len := 1) (ty := .int) rfl rfl rfl hS2
/-! M_ever -/
noncomputable def fb_M_ever_L56 (v1 : Int32) (v2 : Int32) (rc : Int64 → Int32 → px_H → Option (Int32 × px_H)) (v3 : Int64) (v5 : Int32) (hp : px_H) : Option (Int32 × px_H) :=
  bif px_cmp .ge v5 (aI hp 96 (Int32.ofInt 2).toNatClampNeg) then
    (fn_M_comesBack hp).bind fun q18 =>
    sb (wF q18 69 1 (.int (Int32.ofInt 0))) fun h22 =>
    (fn_M_enters v3 h22).bind fun q24 =>
    some ((Int32.ofInt 0), q24)
  else
    (fn_M_looksAt (Int32.ofInt 2) v5 hp).bind fun q28 =>
    bif px_inR v1 10 then
    bif px_cmp .le (aI q28 90 v1.toNatClampNeg) v2 then
      rc (v3 + (Int64.ofNat 0)) (v5 + Int32.ofInt 1) q28
    else
      (fn_M_endPart v5 q28).bind fun q38 =>
      rc (v3 + q38) (v5 + Int32.ofInt 1) q28
    else none
noncomputable def fn_M_ever_L56 (v1 : Int32) (v2 : Int32) : Nat → Int64 → Int32 → px_H → Option (Int32 × px_H)
  | 0 => fun _ _ _ => none
  | n + 1 => fb_M_ever_L56 v1 v2 (fn_M_ever_L56 v1 v2 n)
theorem fl_M_ever_L56 {v1 : Int32} {v2 : Int32}  : ∀ (n : Nat) (v3 : Int64) (v5 : Int32) (hp : px_H) (lv : List (Nat × Value)) (res : Int32 × px_H), oS hp → lk lv [(0, .ref 69), (1, .int v1), (2, .int v2), (3, .long v3), (5, .int v5)] → fn_M_ever_L56 v1 v2 n v3 v5 hp = some res → px_Y mm_M_ever 56 lv [] hp (some (.int res.1)) res.2 := by
  intro n
  induction n with
  | zero =>
    intro v3 v5 hp lv res hS hk h
    cases h
  | succ n ih =>
    intro v3 v5 hp lv res hS hk h
    have h : fb_M_ever_L56 v1 v2 (fn_M_ever_L56 v1 v2 n) v3 v5 hp = some res := h
    unfold fb_M_ever_L56 at h
    refine py_il (pc := 56) (len := 2) (j := 5) rfl hk rfl ?_
    refine py_aln (pc := 58) (len := 1) (j := 0) rfl hk rfl ?_
    refine py_g1 96 (pc := 59) (len := 3) (cs := [69]) rfl rfl rfl List.mem_cons_self hS ?_
    refine py_its (pc := 62) (pc1 := 63) (lv1 := lv) (st1 := [.int (Int32.ofInt 2), .ref 96, .int v5]) 1 (fun _ _ _ _ => rfl) ?_
    refine py_ai (pc := 63) (len := 1) (cs := [96]) (t := 53) (n := 3) rfl rfl rfl rfl List.mem_cons_self hS ?_
    cases hb17 : px_cmp .ge v5 (aI hp 96 (Int32.ofInt 2).toNatClampNeg) with
    | true =>
      have h := cd_t hb17 h
      refine py_ic (pc := 64) (len := 3) true rfl hb17 ?_
      refine py_aln (pc := 103) (len := 1) (j := 0) rfl hk rfl ?_
      obtain ⟨q18, hq19, h⟩ := bd_e h
      obtain ⟨hC20, hS21⟩ := fx_M_comesBack hS hq19
      refine py_vi (pc := 104) (mi := mi_M_comesBack) (cs := [69]) (N := mm_M_comesBack) rfl rfl rfl rfl List.mem_cons_self hS rfl (Nat.le_of_ble_eq_true rfl) (Nat.le_of_ble_eq_true rfl) rfl rfl hC20 ?_
      show px_Y mm_M_ever 107 lv [] q18 _ _
      refine py_aln (pc := 107) (len := 1) (j := 0) rfl hk rfl ?_
      refine py_its (pc := 108) (pc1 := 109) (lv1 := lv) (st1 := [.int (Int32.ofInt 0), .ref 69]) 1 (fun _ _ _ _ => rfl) ?_
      have h := sb_e h
      refine py_pI (pc := 109) (len := 3) (cs := [69]) rfl rfl rfl List.mem_cons_self hS21 rfl rfl rfl rfl ?_
      have hS23 : oS (wF q18 69 1 (.int (Int32.ofInt 0))) := oS_wI (cs := [69]) (ci := 9) rfl List.mem_cons_self hS21
      generalize (wF q18 69 1 (.int (Int32.ofInt 0))) = h22 at h hS23 ⊢
      refine py_aln (pc := 112) (len := 1) (j := 0) rfl hk rfl ?_
      refine py_lln (pc := 113) (len := 1) (j := 3) rfl hk rfl ?_
      obtain ⟨q24, hq25, h⟩ := bd_e h
      obtain ⟨hC26, hS27⟩ := fx_M_enters hS23 hq25
      refine py_vi (pc := 114) (mi := mi_M_enters) (cs := [69]) (N := mm_M_enters) rfl rfl rfl rfl List.mem_cons_self hS23 rfl (Nat.le_of_ble_eq_true rfl) (Nat.le_of_ble_eq_true rfl) rfl rfl hC26 ?_
      show px_Y mm_M_ever 117 lv [] q24 _ _
      refine py_its (pc := 117) (pc1 := 118) (lv1 := lv) (st1 := [.int (Int32.ofInt 0)]) 1 (fun _ _ _ _ => rfl) ?_
      have h := Option.some.inj h
      subst h
      exact py_ir (pc := 118) (len := 1) (ty := .int) rfl rfl rfl hS27
    | false =>
      have h := cd_f hb17 h
      refine py_ic (pc := 64) (len := 3) false rfl hb17 ?_
      refine py_aln (pc := 67) (len := 1) (j := 0) rfl hk rfl ?_
      refine py_its (pc := 68) (pc1 := 69) (lv1 := lv) (st1 := [.int (Int32.ofInt 2), .ref 69]) 1 (fun _ _ _ _ => rfl) ?_
      refine py_il (pc := 69) (len := 2) (j := 5) rfl hk rfl ?_
      obtain ⟨q28, hq29, h⟩ := bd_e h
      obtain ⟨hC30, hS31⟩ := fx_M_looksAt hS hq29
      refine py_vi (pc := 71) (mi := mi_M_looksAt) (cs := [69]) (N := mm_M_looksAt) rfl rfl rfl rfl List.mem_cons_self hS rfl (Nat.le_of_ble_eq_true rfl) (Nat.le_of_ble_eq_true rfl) rfl rfl hC30 ?_
      show px_Y mm_M_ever 74 lv [] q28 _ _
      refine py_lln (pc := 74) (len := 1) (j := 3) rfl hk rfl ?_
      refine py_aln (pc := 75) (len := 1) (j := 0) rfl hk rfl ?_
      refine py_g1 90 (pc := 76) (len := 3) (cs := [69]) rfl rfl rfl List.mem_cons_self hS31 ?_
      refine py_iln (pc := 79) (len := 1) (j := 1) rfl hk rfl ?_
      obtain ⟨hi32, h⟩ := cd_n h
      refine py_ai (pc := 80) (len := 1) (cs := [90]) (t := 47) (n := 10) rfl rfl rfl hi32 List.mem_cons_self hS31 ?_
      refine py_iln (pc := 81) (len := 1) (j := 2) rfl hk rfl ?_
      cases hb33 : px_cmp .le (aI q28 90 v1.toNatClampNeg) v2 with
      | true =>
        have h := cd_t hb33 h
        refine py_ic (pc := 82) (len := 3) true rfl hb33 ?_
        refine py_its (pc := 94) (pc1 := 96) (lv1 := lv) (st1 := [.long (v3 + (Int64.ofNat 0))]) 2 (fun _ _ _ _ => rfl) ?_
        refine py_sln (pc := 96) (len := 1) (j := 3) rfl rfl hk (fun lv34 hk35 => ?_)
        have hk35 : lk lv34 [(3, .long (v3 + (Int64.ofNat 0))), (0, .ref 69), (1, .int v1), (2, .int v2), (5, .int v5)] := hk35
        refine py_inc (pc := 97) (len := 3) (j := 5) (n := 1) rfl rfl hk35 rfl (fun lv36 hk37 => ?_)
        have hk37 : lk lv36 [(5, .int (v5 + Int32.ofInt 1)), (3, .long (v3 + (Int64.ofNat 0))), (0, .ref 69), (1, .int v1), (2, .int v2)] := hk37
        refine py_its (pc := 100) (pc1 := 56) (lv1 := lv36) (st1 := []) 1 (fun _ _ _ _ => rfl) ?_
        exact ih (v3 + (Int64.ofNat 0)) (v5 + Int32.ofInt 1) q28 lv36 _ hS31 ⟨lk_find hk37 rfl, lk_find hk37 rfl, lk_find hk37 rfl, lk_find hk37 rfl, lk_find hk37 rfl, trivial⟩ h
      | false =>
        have h := cd_f hb33 h
        refine py_ic (pc := 82) (len := 3) false rfl hb33 ?_
        refine py_aln (pc := 85) (len := 1) (j := 0) rfl hk rfl ?_
        refine py_il (pc := 86) (len := 2) (j := 5) rfl hk rfl ?_
        obtain ⟨q38, hq39, h⟩ := bd_e h
        have hC40 := (fx_M_endPart hS31 hq39).1
        refine py_vi (pc := 88) (mi := mi_M_endPart) (cs := [69]) (N := mm_M_endPart) rfl rfl rfl rfl List.mem_cons_self hS31 rfl (Nat.le_of_ble_eq_true rfl) (Nat.le_of_ble_eq_true rfl) rfl rfl hC40 ?_
        show px_Y mm_M_ever 91 lv [.long q38, .long v3] q28 _ _
        refine py_its (pc := 91) (pc1 := 96) (lv1 := lv) (st1 := [.long (v3 + q38)]) 2 (fun _ _ _ _ => rfl) ?_
        refine py_sln (pc := 96) (len := 1) (j := 3) rfl rfl hk (fun lv41 hk42 => ?_)
        have hk42 : lk lv41 [(3, .long (v3 + q38)), (0, .ref 69), (1, .int v1), (2, .int v2), (5, .int v5)] := hk42
        refine py_inc (pc := 97) (len := 3) (j := 5) (n := 1) rfl rfl hk42 rfl (fun lv43 hk44 => ?_)
        have hk44 : lk lv43 [(5, .int (v5 + Int32.ofInt 1)), (3, .long (v3 + q38)), (0, .ref 69), (1, .int v1), (2, .int v2)] := hk44
        refine py_its (pc := 100) (pc1 := 56) (lv1 := lv43) (st1 := []) 1 (fun _ _ _ _ => rfl) ?_
        exact ih (v3 + q38) (v5 + Int32.ofInt 1) q28 lv43 _ hS31 ⟨lk_find hk44 rfl, lk_find hk44 rfl, lk_find hk44 rfl, lk_find hk44 rfl, lk_find hk44 rfl, trivial⟩ h
noncomputable def fn_M_ever (a1 : Int32) (hp : px_H) : Option (Int32 × px_H) :=
  sb (wF hp 69 0 (.int (Int32.ofInt 0))) fun h1 =>
  (fn_M_isPerson a1 h1).bind fun q3 =>
  bif px_cmp .eq q3 0 then
    some ((Int32.ofInt (-1)), h1)
  else
    bif px_cmp .lt (gI h1 69 31) (gI h1 69 11) then
      (fn_M_reachesNow ((gI h1 69 11) - (Int32.ofInt 1)) h1).bind fun q8 =>
      bif px_cmp .ne q8.1 0 then
        (fn_M_remembers q8.2).bind fun q13 =>
        fn_M_ever_L56 a1 (gI h1 69 31) fu (Int64.ofNat 0) (Int32.ofInt 0) q13
      else
        some ((Int8.ofInt (-3)).toInt32, q8.2)
    else
      some ((Int32.ofInt (-1)), h1)
theorem fx_M_ever {a1 : Int32} {hp : px_H} {res : Int32 × px_H} (hS : oS hp) (h : fn_M_ever a1 hp = some res) : px_C nm_T nm_P mi_M_ever [.ref 69, .int a1] hp (some (.int res.1)) res.2 ∧ oS res.2 := by
  unfold fn_M_ever at h
  refine py_C (M := mm_M_ever) rfl (Nat.le_of_ble_eq_true rfl) ?_
  show px_Y mm_M_ever 0 [(0, .ref 69), (1, .int a1)] [] hp _ _
  refine py_its (pc := 0) (pc1 := 2) (lv1 := [(0, .ref 69), (1, .int a1)]) (st1 := [.int (Int32.ofInt 0), .ref 69]) 2 (fun _ _ _ _ => rfl) ?_
  have h := sb_e h
  refine py_pI (pc := 2) (len := 3) (cs := [69]) rfl rfl rfl List.mem_cons_self hS rfl rfl rfl rfl ?_
  have hS2 : oS (wF hp 69 0 (.int (Int32.ofInt 0))) := oS_wI (cs := [69]) (ci := 9) rfl List.mem_cons_self hS
  generalize (wF hp 69 0 (.int (Int32.ofInt 0))) = h1 at h hS2 ⊢
  refine py_its (pc := 5) (pc1 := 7) (lv1 := [(0, .ref 69), (1, .int a1)]) (st1 := [.int a1, .ref 69]) 2 (fun _ _ _ _ => rfl) ?_
  obtain ⟨q3, hq4, h⟩ := bd_e h
  have hC5 := (fx_M_isPerson hS2 hq4).1
  refine py_vi (pc := 7) (mi := mi_M_isPerson) (cs := [69]) (N := mm_M_isPerson) rfl rfl rfl rfl List.mem_cons_self hS2 rfl (Nat.le_of_ble_eq_true rfl) (Nat.le_of_ble_eq_true rfl) rfl rfl hC5 ?_
  show px_Y mm_M_ever 10 [(0, .ref 69), (1, .int a1)] [.int q3] h1 _ _
  cases hb6 : px_cmp .eq q3 0 with
  | true =>
    have h := cd_t hb6 h
    refine py_if (pc := 10) (len := 3) true rfl hb6 ?_
    refine py_its (pc := 24) (pc1 := 25) (lv1 := [(0, .ref 69), (1, .int a1)]) (st1 := [.int (Int32.ofInt (-1))]) 1 (fun _ _ _ _ => rfl) ?_
    have h := Option.some.inj h
    subst h
    exact py_ir (pc := 25) (len := 1) (ty := .int) rfl rfl rfl hS2
  | false =>
    have h := cd_f hb6 h
    refine py_if (pc := 10) (len := 3) false rfl hb6 ?_
    refine py_its (pc := 13) (pc1 := 14) (lv1 := [(0, .ref 69), (1, .int a1)]) (st1 := [.ref 69]) 1 (fun _ _ _ _ => rfl) ?_
    refine py_gI (pc := 14) (len := 3) (cs := [69]) rfl rfl rfl List.mem_cons_self hS2 ?_
    refine py_its (pc := 17) (pc1 := 18) (lv1 := [(0, .ref 69), (1, .int a1)]) (st1 := [.ref 69, .int (gI h1 69 31)]) 1 (fun _ _ _ _ => rfl) ?_
    refine py_gI (pc := 18) (len := 3) (cs := [69]) rfl rfl rfl List.mem_cons_self hS2 ?_
    cases hb7 : px_cmp .lt (gI h1 69 31) (gI h1 69 11) with
    | true =>
      have h := cd_t hb7 h
      refine py_ic (pc := 21) (len := 3) true rfl hb7 ?_
      refine py_its (pc := 26) (pc1 := 27) (lv1 := [(0, .ref 69), (1, .int a1)]) (st1 := [.ref 69]) 1 (fun _ _ _ _ => rfl) ?_
      refine py_gI (pc := 27) (len := 3) (cs := [69]) rfl rfl rfl List.mem_cons_self hS2 ?_
      refine py_its (pc := 30) (pc1 := 33) (lv1 := [(2, .int (gI h1 69 31)), (0, .ref 69), (1, .int a1)]) (st1 := [.ref 69, .ref 69]) 3 (fun _ _ _ _ => rfl) ?_
      refine py_gI (pc := 33) (len := 3) (cs := [69]) rfl rfl rfl List.mem_cons_self hS2 ?_
      refine py_its (pc := 36) (pc1 := 38) (lv1 := [(2, .int (gI h1 69 31)), (0, .ref 69), (1, .int a1)]) (st1 := [.int ((gI h1 69 11) - (Int32.ofInt 1)), .ref 69]) 2 (fun _ _ _ _ => rfl) ?_
      obtain ⟨q8, hq9, h⟩ := bd_e h
      obtain ⟨hC10, hS11⟩ := fx_M_reachesNow hS2 hq9
      refine py_vi (pc := 38) (mi := mi_M_reachesNow) (cs := [69]) (N := mm_M_reachesNow) rfl rfl rfl rfl List.mem_cons_self hS2 rfl (Nat.le_of_ble_eq_true rfl) (Nat.le_of_ble_eq_true rfl) rfl rfl hC10 ?_
      show px_Y mm_M_ever 41 [(2, .int (gI h1 69 31)), (0, .ref 69), (1, .int a1)] [.int q8.1] q8.2 _ _
      cases hb12 : px_cmp .ne q8.1 0 with
      | true =>
        have h := cd_t hb12 h
        refine py_if (pc := 41) (len := 3) true rfl hb12 ?_
        refine py_its (pc := 47) (pc1 := 48) (lv1 := [(2, .int (gI h1 69 31)), (0, .ref 69), (1, .int a1)]) (st1 := [.ref 69]) 1 (fun _ _ _ _ => rfl) ?_
        obtain ⟨q13, hq14, h⟩ := bd_e h
        obtain ⟨hC15, hS16⟩ := fx_M_remembers hS11 hq14
        refine py_vi (pc := 48) (mi := mi_M_remembers) (cs := [69]) (N := mm_M_remembers) rfl rfl rfl rfl List.mem_cons_self hS11 rfl (Nat.le_of_ble_eq_true rfl) (Nat.le_of_ble_eq_true rfl) rfl rfl hC15 ?_
        show px_Y mm_M_ever 51 [(2, .int (gI h1 69 31)), (0, .ref 69), (1, .int a1)] [] q13 _ _
        refine py_its (pc := 51) (pc1 := 56) (lv1 := [(5, .int (Int32.ofInt 0)), (3, .long (Int64.ofNat 0)), (2, .int (gI h1 69 31)), (0, .ref 69), (1, .int a1)]) (st1 := []) 4 (fun _ _ _ _ => rfl) ?_
        exact fl_M_ever_L56 fu (Int64.ofNat 0) (Int32.ofInt 0) q13 [(5, .int (Int32.ofInt 0)), (3, .long (Int64.ofNat 0)), (2, .int (gI h1 69 31)), (0, .ref 69), (1, .int a1)] _ hS16 ⟨rfl, rfl, rfl, rfl, rfl, trivial⟩ h
      | false =>
        have h := cd_f hb12 h
        refine py_if (pc := 41) (len := 3) false rfl hb12 ?_
        refine py_its (pc := 44) (pc1 := 46) (lv1 := [(2, .int (gI h1 69 31)), (0, .ref 69), (1, .int a1)]) (st1 := [.int (Int8.ofInt (-3)).toInt32]) 1 (fun _ _ _ _ => rfl) ?_
        have h := Option.some.inj h
        subst h
        exact py_ir (pc := 46) (len := 1) (ty := .int) rfl rfl rfl hS11
    | false =>
      have h := cd_f hb7 h
      refine py_ic (pc := 21) (len := 3) false rfl hb7 ?_
      refine py_its (pc := 24) (pc1 := 25) (lv1 := [(0, .ref 69), (1, .int a1)]) (st1 := [.int (Int32.ofInt (-1))]) 1 (fun _ _ _ _ => rfl) ?_
      have h := Option.some.inj h
      subst h
      exact py_ir (pc := 25) (len := 1) (ty := .int) rfl rfl rfl hS2
/-! M_filled -/
noncomputable def fb_M_filled_L5 (v1 : Int32) (hp : px_H) (rc : Int64 → Int32 → Option (Int64)) (v2 : Int64) (v4 : Int32) : Option (Int64) :=
  bif px_cmp .ge v4 (aI hp 96 (Int32.ofInt 2).toNatClampNeg) then
    some v2
  else
    bif px_inR v4 3001 then
    bif px_cmp .ne (nm_bc (aI hp 98 v4.toNatClampNeg)) v1 then
      rc (v2 + (Int64.ofNat 0)) (v4 + Int32.ofInt 1)
    else
      (fn_M_endPart v4 hp).bind fun q8 =>
      rc (v2 + q8) (v4 + Int32.ofInt 1)
    else none
noncomputable def fn_M_filled_L5 (v1 : Int32) (hp : px_H) : Nat → Int64 → Int32 → Option (Int64)
  | 0 => fun _ _ => none
  | n + 1 => fb_M_filled_L5 v1 hp (fn_M_filled_L5 v1 hp n)
theorem fl_M_filled_L5 {v1 : Int32} {hp : px_H}  : ∀ (n : Nat) (v2 : Int64) (v4 : Int32) (lv : List (Nat × Value)) (res : Int64), oS hp → lk lv [(0, .ref 69), (1, .int v1), (2, .long v2), (4, .int v4)] → fn_M_filled_L5 v1 hp n v2 v4 = some res → px_Y mm_M_filled 5 lv [] hp (some (.long res)) hp := by
  intro n
  induction n with
  | zero =>
    intro v2 v4 lv res hS hk h
    cases h
  | succ n ih =>
    intro v2 v4 lv res hS hk h
    have h : fb_M_filled_L5 v1 hp (fn_M_filled_L5 v1 hp n) v2 v4 = some res := h
    unfold fb_M_filled_L5 at h
    refine py_il (pc := 5) (len := 2) (j := 4) rfl hk rfl ?_
    refine py_aln (pc := 7) (len := 1) (j := 0) rfl hk rfl ?_
    refine py_g1 96 (pc := 8) (len := 3) (cs := [69]) rfl rfl rfl List.mem_cons_self hS ?_
    refine py_its (pc := 11) (pc1 := 12) (lv1 := lv) (st1 := [.int (Int32.ofInt 2), .ref 96, .int v4]) 1 (fun _ _ _ _ => rfl) ?_
    refine py_ai (pc := 12) (len := 1) (cs := [96]) (t := 53) (n := 3) rfl rfl rfl rfl List.mem_cons_self hS ?_
    cases hb1 : px_cmp .ge v4 (aI hp 96 (Int32.ofInt 2).toNatClampNeg) with
    | true =>
      have h := cd_t hb1 h
      refine py_ic (pc := 13) (len := 3) true rfl hb1 ?_
      refine py_lln (pc := 49) (len := 1) (j := 2) rfl hk rfl ?_
      have h := Option.some.inj h
      subst h
      exact py_lr (pc := 50) (len := 1) rfl rfl hS
    | false =>
      have h := cd_f hb1 h
      refine py_ic (pc := 13) (len := 3) false rfl hb1 ?_
      refine py_lln (pc := 16) (len := 1) (j := 2) rfl hk rfl ?_
      refine py_aln (pc := 17) (len := 1) (j := 0) rfl hk rfl ?_
      refine py_g1 98 (pc := 18) (len := 3) (cs := [69]) rfl rfl rfl List.mem_cons_self hS ?_
      refine py_il (pc := 21) (len := 2) (j := 4) rfl hk rfl ?_
      obtain ⟨hi2, h⟩ := cd_n h
      refine py_ai (pc := 23) (len := 1) (cs := [98]) (t := 55) (n := 3001) rfl rfl rfl hi2 List.mem_cons_self hS ?_
      refine py_st (pc := 24) (mi := mi_I_bitCount) (N := mm_I_bitCount) rfl rfl rfl (Nat.le_of_ble_eq_true rfl) (Nat.le_of_ble_eq_true rfl) rfl rfl (nm_bc_C (aI hp 98 v4.toNatClampNeg) hp) ?_
      show px_Y mm_M_filled 27 lv [.int (nm_bc (aI hp 98 v4.toNatClampNeg)), .long v2] hp _ _
      refine py_iln (pc := 27) (len := 1) (j := 1) rfl hk rfl ?_
      cases hb3 : px_cmp .ne (nm_bc (aI hp 98 v4.toNatClampNeg)) v1 with
      | true =>
        have h := cd_t hb3 h
        refine py_ic (pc := 28) (len := 3) true rfl hb3 ?_
        refine py_its (pc := 40) (pc1 := 42) (lv1 := lv) (st1 := [.long (v2 + (Int64.ofNat 0))]) 2 (fun _ _ _ _ => rfl) ?_
        refine py_sln (pc := 42) (len := 1) (j := 2) rfl rfl hk (fun lv4 hk5 => ?_)
        have hk5 : lk lv4 [(2, .long (v2 + (Int64.ofNat 0))), (0, .ref 69), (1, .int v1), (4, .int v4)] := hk5
        refine py_inc (pc := 43) (len := 3) (j := 4) (n := 1) rfl rfl hk5 rfl (fun lv6 hk7 => ?_)
        have hk7 : lk lv6 [(4, .int (v4 + Int32.ofInt 1)), (2, .long (v2 + (Int64.ofNat 0))), (0, .ref 69), (1, .int v1)] := hk7
        refine py_its (pc := 46) (pc1 := 5) (lv1 := lv6) (st1 := []) 1 (fun _ _ _ _ => rfl) ?_
        exact ih (v2 + (Int64.ofNat 0)) (v4 + Int32.ofInt 1) lv6 _ hS ⟨lk_find hk7 rfl, lk_find hk7 rfl, lk_find hk7 rfl, lk_find hk7 rfl, trivial⟩ h
      | false =>
        have h := cd_f hb3 h
        refine py_ic (pc := 28) (len := 3) false rfl hb3 ?_
        refine py_aln (pc := 31) (len := 1) (j := 0) rfl hk rfl ?_
        refine py_il (pc := 32) (len := 2) (j := 4) rfl hk rfl ?_
        obtain ⟨q8, hq9, h⟩ := bd_e h
        have hC10 := (fx_M_endPart hS hq9).1
        refine py_vi (pc := 34) (mi := mi_M_endPart) (cs := [69]) (N := mm_M_endPart) rfl rfl rfl rfl List.mem_cons_self hS rfl (Nat.le_of_ble_eq_true rfl) (Nat.le_of_ble_eq_true rfl) rfl rfl hC10 ?_
        show px_Y mm_M_filled 37 lv [.long q8, .long v2] hp _ _
        refine py_its (pc := 37) (pc1 := 42) (lv1 := lv) (st1 := [.long (v2 + q8)]) 2 (fun _ _ _ _ => rfl) ?_
        refine py_sln (pc := 42) (len := 1) (j := 2) rfl rfl hk (fun lv11 hk12 => ?_)
        have hk12 : lk lv11 [(2, .long (v2 + q8)), (0, .ref 69), (1, .int v1), (4, .int v4)] := hk12
        refine py_inc (pc := 43) (len := 3) (j := 4) (n := 1) rfl rfl hk12 rfl (fun lv13 hk14 => ?_)
        have hk14 : lk lv13 [(4, .int (v4 + Int32.ofInt 1)), (2, .long (v2 + q8)), (0, .ref 69), (1, .int v1)] := hk14
        refine py_its (pc := 46) (pc1 := 5) (lv1 := lv13) (st1 := []) 1 (fun _ _ _ _ => rfl) ?_
        exact ih (v2 + q8) (v4 + Int32.ofInt 1) lv13 _ hS ⟨lk_find hk14 rfl, lk_find hk14 rfl, lk_find hk14 rfl, lk_find hk14 rfl, trivial⟩ h
noncomputable def fn_M_filled (a1 : Int32) (hp : px_H) : Option (Int64) :=
  fn_M_filled_L5 a1 hp fu (Int64.ofNat 0) (Int32.ofInt 0)
theorem fx_M_filled {a1 : Int32} {hp : px_H} {res : Int64} (hS : oS hp) (h : fn_M_filled a1 hp = some res) : px_C nm_T nm_P mi_M_filled [.ref 69, .int a1] hp (some (.long res)) hp ∧ oS hp := by
  unfold fn_M_filled at h
  refine py_C (M := mm_M_filled) rfl (Nat.le_of_ble_eq_true rfl) ?_
  show px_Y mm_M_filled 0 [(0, .ref 69), (1, .int a1)] [] hp _ _
  refine py_its (pc := 0) (pc1 := 5) (lv1 := [(4, .int (Int32.ofInt 0)), (2, .long (Int64.ofNat 0)), (0, .ref 69), (1, .int a1)]) (st1 := []) 4 (fun _ _ _ _ => rfl) ?_
  exact fl_M_filled_L5 fu (Int64.ofNat 0) (Int32.ofInt 0) [(4, .int (Int32.ofInt 0)), (2, .long (Int64.ofNat 0)), (0, .ref 69), (1, .int a1)] _ hS ⟨rfl, rfl, rfl, rfl, trivial⟩ h
/-! M_empty -/
noncomputable def fb_M_empty_L70 (v1 : Int32) (rc : Int32 → px_H → Option (Int32 × px_H)) (v4 : Int32) (hp : px_H) : Option (Int32 × px_H) :=
  bif px_inR v1 6 then
  bif px_cmp .gt v4 (aI hp 80 v1.toNatClampNeg) then
    some ((Int32.ofInt 0), hp)
  else
    (fn_M_filled v4 hp).bind fun q31 =>
    (fn_M_enters q31 hp).bind fun q34 =>
    rc (v4 + Int32.ofInt 1) q34
  else none
noncomputable def fn_M_empty_L70 (v1 : Int32) : Nat → Int32 → px_H → Option (Int32 × px_H)
  | 0 => fun _ _ => none
  | n + 1 => fb_M_empty_L70 v1 (fn_M_empty_L70 v1 n)
theorem fl_M_empty_L70 {v1 : Int32}  : ∀ (n : Nat) (v4 : Int32) (hp : px_H) (lv : List (Nat × Value)) (res : Int32 × px_H), oS hp → lk lv [(0, .ref 69), (1, .int v1), (4, .int v4)] → fn_M_empty_L70 v1 n v4 hp = some res → px_Y mm_M_empty 70 lv [] hp (some (.int res.1)) res.2 := by
  intro n
  induction n with
  | zero =>
    intro v4 hp lv res hS hk h
    cases h
  | succ n ih =>
    intro v4 hp lv res hS hk h
    have h : fb_M_empty_L70 v1 (fn_M_empty_L70 v1 n) v4 hp = some res := h
    unfold fb_M_empty_L70 at h
    refine py_il (pc := 70) (len := 2) (j := 4) rfl hk rfl ?_
    refine py_aln (pc := 72) (len := 1) (j := 0) rfl hk rfl ?_
    refine py_g1 80 (pc := 73) (len := 3) (cs := [69]) rfl rfl rfl List.mem_cons_self hS ?_
    refine py_iln (pc := 76) (len := 1) (j := 1) rfl hk rfl ?_
    obtain ⟨hi29, h⟩ := cd_n h
    refine py_ai (pc := 77) (len := 1) (cs := [80]) (t := 37) (n := 6) rfl rfl rfl hi29 List.mem_cons_self hS ?_
    cases hb30 : px_cmp .gt v4 (aI hp 80 v1.toNatClampNeg) with
    | true =>
      have h := cd_t hb30 h
      refine py_ic (pc := 78) (len := 3) true rfl hb30 ?_
      refine py_its (pc := 97) (pc1 := 98) (lv1 := lv) (st1 := [.int (Int32.ofInt 0)]) 1 (fun _ _ _ _ => rfl) ?_
      have h := Option.some.inj h
      subst h
      exact py_ir (pc := 98) (len := 1) (ty := .int) rfl rfl rfl hS
    | false =>
      have h := cd_f hb30 h
      refine py_ic (pc := 78) (len := 3) false rfl hb30 ?_
      refine py_aln (pc := 81) (len := 1) (j := 0) rfl hk rfl ?_
      refine py_aln (pc := 82) (len := 1) (j := 0) rfl hk rfl ?_
      refine py_il (pc := 83) (len := 2) (j := 4) rfl hk rfl ?_
      obtain ⟨q31, hq32, h⟩ := bd_e h
      have hC33 := (fx_M_filled hS hq32).1
      refine py_vi (pc := 85) (mi := mi_M_filled) (cs := [69]) (N := mm_M_filled) rfl rfl rfl rfl List.mem_cons_self hS rfl (Nat.le_of_ble_eq_true rfl) (Nat.le_of_ble_eq_true rfl) rfl rfl hC33 ?_
      show px_Y mm_M_empty 88 lv [.long q31, .ref 69] hp _ _
      obtain ⟨q34, hq35, h⟩ := bd_e h
      obtain ⟨hC36, hS37⟩ := fx_M_enters hS hq35
      refine py_vi (pc := 88) (mi := mi_M_enters) (cs := [69]) (N := mm_M_enters) rfl rfl rfl rfl List.mem_cons_self hS rfl (Nat.le_of_ble_eq_true rfl) (Nat.le_of_ble_eq_true rfl) rfl rfl hC36 ?_
      show px_Y mm_M_empty 91 lv [] q34 _ _
      refine py_inc (pc := 91) (len := 3) (j := 4) (n := 1) rfl rfl hk rfl (fun lv38 hk39 => ?_)
      have hk39 : lk lv38 [(4, .int (v4 + Int32.ofInt 1)), (0, .ref 69), (1, .int v1)] := hk39
      refine py_its (pc := 94) (pc1 := 70) (lv1 := lv38) (st1 := []) 1 (fun _ _ _ _ => rfl) ?_
      exact ih (v4 + Int32.ofInt 1) q34 lv38 _ hS37 ⟨lk_find hk39 rfl, lk_find hk39 rfl, lk_find hk39 rfl, trivial⟩ h
noncomputable def fb_M_empty_L36 (v1 : Int32) (rc : Int64 → Int32 → px_H → Option (Int32 × px_H)) (v2 : Int64) (v4 : Int32) (hp : px_H) : Option (Int32 × px_H) :=
  bif px_inR v1 6 then
  bif px_cmp .ge v4 (aI hp 80 v1.toNatClampNeg) then
    (fn_M_enters v2 hp).bind fun q16 =>
    fn_M_empty_L70 v1 fu (Int32.ofInt 0) q16
  else
    (fn_M_filled v4 hp).bind fun q22 =>
    rc (v2 + q22) (v4 + Int32.ofInt 1) hp
  else none
noncomputable def fn_M_empty_L36 (v1 : Int32) : Nat → Int64 → Int32 → px_H → Option (Int32 × px_H)
  | 0 => fun _ _ _ => none
  | n + 1 => fb_M_empty_L36 v1 (fn_M_empty_L36 v1 n)
theorem fl_M_empty_L36 {v1 : Int32}  : ∀ (n : Nat) (v2 : Int64) (v4 : Int32) (hp : px_H) (lv : List (Nat × Value)) (res : Int32 × px_H), oS hp → lk lv [(0, .ref 69), (1, .int v1), (2, .long v2), (4, .int v4)] → fn_M_empty_L36 v1 n v2 v4 hp = some res → px_Y mm_M_empty 36 lv [] hp (some (.int res.1)) res.2 := by
  intro n
  induction n with
  | zero =>
    intro v2 v4 hp lv res hS hk h
    cases h
  | succ n ih =>
    intro v2 v4 hp lv res hS hk h
    have h : fb_M_empty_L36 v1 (fn_M_empty_L36 v1 n) v2 v4 hp = some res := h
    unfold fb_M_empty_L36 at h
    refine py_il (pc := 36) (len := 2) (j := 4) rfl hk rfl ?_
    refine py_aln (pc := 38) (len := 1) (j := 0) rfl hk rfl ?_
    refine py_g1 80 (pc := 39) (len := 3) (cs := [69]) rfl rfl rfl List.mem_cons_self hS ?_
    refine py_iln (pc := 42) (len := 1) (j := 1) rfl hk rfl ?_
    obtain ⟨hi14, h⟩ := cd_n h
    refine py_ai (pc := 43) (len := 1) (cs := [80]) (t := 37) (n := 6) rfl rfl rfl hi14 List.mem_cons_self hS ?_
    cases hb15 : px_cmp .ge v4 (aI hp 80 v1.toNatClampNeg) with
    | true =>
      have h := cd_t hb15 h
      refine py_ic (pc := 44) (len := 3) true rfl hb15 ?_
      refine py_aln (pc := 62) (len := 1) (j := 0) rfl hk rfl ?_
      refine py_lln (pc := 63) (len := 1) (j := 2) rfl hk rfl ?_
      obtain ⟨q16, hq17, h⟩ := bd_e h
      obtain ⟨hC18, hS19⟩ := fx_M_enters hS hq17
      refine py_vi (pc := 64) (mi := mi_M_enters) (cs := [69]) (N := mm_M_enters) rfl rfl rfl rfl List.mem_cons_self hS rfl (Nat.le_of_ble_eq_true rfl) (Nat.le_of_ble_eq_true rfl) rfl rfl hC18 ?_
      show px_Y mm_M_empty 67 lv [] q16 _ _
      refine py_its (pc := 67) (pc1 := 68) (lv1 := lv) (st1 := [.int (Int32.ofInt 0)]) 1 (fun _ _ _ _ => rfl) ?_
      refine py_sti (pc := 68) (len := 2) (j := 4) rfl rfl hk (fun lv20 hk21 => ?_)
      have hk21 : lk lv20 [(4, .int (Int32.ofInt 0)), (0, .ref 69), (1, .int v1), (2, .long v2)] := hk21
      exact fl_M_empty_L70 fu (Int32.ofInt 0) q16 lv20 _ hS19 ⟨lk_find hk21 rfl, lk_find hk21 rfl, lk_find hk21 rfl, trivial⟩ h
    | false =>
      have h := cd_f hb15 h
      refine py_ic (pc := 44) (len := 3) false rfl hb15 ?_
      refine py_lln (pc := 47) (len := 1) (j := 2) rfl hk rfl ?_
      refine py_aln (pc := 48) (len := 1) (j := 0) rfl hk rfl ?_
      refine py_il (pc := 49) (len := 2) (j := 4) rfl hk rfl ?_
      obtain ⟨q22, hq23, h⟩ := bd_e h
      have hC24 := (fx_M_filled hS hq23).1
      refine py_vi (pc := 51) (mi := mi_M_filled) (cs := [69]) (N := mm_M_filled) rfl rfl rfl rfl List.mem_cons_self hS rfl (Nat.le_of_ble_eq_true rfl) (Nat.le_of_ble_eq_true rfl) rfl rfl hC24 ?_
      show px_Y mm_M_empty 54 lv [.long q22, .long v2] hp _ _
      refine py_its (pc := 54) (pc1 := 55) (lv1 := lv) (st1 := [.long (v2 + q22)]) 1 (fun _ _ _ _ => rfl) ?_
      refine py_sln (pc := 55) (len := 1) (j := 2) rfl rfl hk (fun lv25 hk26 => ?_)
      have hk26 : lk lv25 [(2, .long (v2 + q22)), (0, .ref 69), (1, .int v1), (4, .int v4)] := hk26
      refine py_inc (pc := 56) (len := 3) (j := 4) (n := 1) rfl rfl hk26 rfl (fun lv27 hk28 => ?_)
      have hk28 : lk lv27 [(4, .int (v4 + Int32.ofInt 1)), (2, .long (v2 + q22)), (0, .ref 69), (1, .int v1)] := hk28
      refine py_its (pc := 59) (pc1 := 36) (lv1 := lv27) (st1 := []) 1 (fun _ _ _ _ => rfl) ?_
      exact ih (v2 + q22) (v4 + Int32.ofInt 1) hp lv27 _ hS ⟨lk_find hk28 rfl, lk_find hk28 rfl, lk_find hk28 rfl, lk_find hk28 rfl, trivial⟩ h
noncomputable def fn_M_empty (a1 : Int32) (hp : px_H) : Option (Int32 × px_H) :=
  sb (wF hp 69 0 (.int (Int32.ofInt 0))) fun h1 =>
  (fn_M_isLeft a1 h1).bind fun q3 =>
  bif px_cmp .ne q3 0 then
    (fn_M_asks a1 h1).bind fun q7 =>
    bif px_cmp .ne q7.1 0 then
      sb (wF q7.2 69 1 (.int (Int32.ofInt 0))) fun h12 =>
      fn_M_empty_L36 a1 fu (Int64.ofNat 0) (Int32.ofInt 0) h12
    else
      some ((Int8.ofInt (-3)).toInt32, q7.2)
  else
    some ((Int32.ofInt (-1)), h1)
theorem fx_M_empty {a1 : Int32} {hp : px_H} {res : Int32 × px_H} (hS : oS hp) (h : fn_M_empty a1 hp = some res) : px_C nm_T nm_P mi_M_empty [.ref 69, .int a1] hp (some (.int res.1)) res.2 ∧ oS res.2 := by
  unfold fn_M_empty at h
  refine py_C (M := mm_M_empty) rfl (Nat.le_of_ble_eq_true rfl) ?_
  show px_Y mm_M_empty 0 [(0, .ref 69), (1, .int a1)] [] hp _ _
  refine py_its (pc := 0) (pc1 := 2) (lv1 := [(0, .ref 69), (1, .int a1)]) (st1 := [.int (Int32.ofInt 0), .ref 69]) 2 (fun _ _ _ _ => rfl) ?_
  have h := sb_e h
  refine py_pI (pc := 2) (len := 3) (cs := [69]) rfl rfl rfl List.mem_cons_self hS rfl rfl rfl rfl ?_
  have hS2 : oS (wF hp 69 0 (.int (Int32.ofInt 0))) := oS_wI (cs := [69]) (ci := 9) rfl List.mem_cons_self hS
  generalize (wF hp 69 0 (.int (Int32.ofInt 0))) = h1 at h hS2 ⊢
  refine py_its (pc := 5) (pc1 := 7) (lv1 := [(0, .ref 69), (1, .int a1)]) (st1 := [.int a1, .ref 69]) 2 (fun _ _ _ _ => rfl) ?_
  obtain ⟨q3, hq4, h⟩ := bd_e h
  have hC5 := (fx_M_isLeft hS2 hq4).1
  refine py_vi (pc := 7) (mi := mi_M_isLeft) (cs := [69]) (N := mm_M_isLeft) rfl rfl rfl rfl List.mem_cons_self hS2 rfl (Nat.le_of_ble_eq_true rfl) (Nat.le_of_ble_eq_true rfl) rfl rfl hC5 ?_
  show px_Y mm_M_empty 10 [(0, .ref 69), (1, .int a1)] [.int q3] h1 _ _
  cases hb6 : px_cmp .ne q3 0 with
  | true =>
    have h := cd_t hb6 h
    refine py_if (pc := 10) (len := 3) true rfl hb6 ?_
    refine py_its (pc := 15) (pc1 := 17) (lv1 := [(0, .ref 69), (1, .int a1)]) (st1 := [.int a1, .ref 69]) 2 (fun _ _ _ _ => rfl) ?_
    obtain ⟨q7, hq8, h⟩ := bd_e h
    obtain ⟨hC9, hS10⟩ := fx_M_asks hS2 hq8
    refine py_vi (pc := 17) (mi := mi_M_asks) (cs := [69]) (N := mm_M_asks) rfl rfl rfl rfl List.mem_cons_self hS2 rfl (Nat.le_of_ble_eq_true rfl) (Nat.le_of_ble_eq_true rfl) rfl rfl hC9 ?_
    show px_Y mm_M_empty 20 [(0, .ref 69), (1, .int a1)] [.int q7.1] q7.2 _ _
    cases hb11 : px_cmp .ne q7.1 0 with
    | true =>
      have h := cd_t hb11 h
      refine py_if (pc := 20) (len := 3) true rfl hb11 ?_
      refine py_its (pc := 26) (pc1 := 28) (lv1 := [(0, .ref 69), (1, .int a1)]) (st1 := [.int (Int32.ofInt 0), .ref 69]) 2 (fun _ _ _ _ => rfl) ?_
      have h := sb_e h
      refine py_pI (pc := 28) (len := 3) (cs := [69]) rfl rfl rfl List.mem_cons_self hS10 rfl rfl rfl rfl ?_
      have hS13 : oS (wF q7.2 69 1 (.int (Int32.ofInt 0))) := oS_wI (cs := [69]) (ci := 9) rfl List.mem_cons_self hS10
      generalize (wF q7.2 69 1 (.int (Int32.ofInt 0))) = h12 at h hS13 ⊢
      refine py_its (pc := 31) (pc1 := 36) (lv1 := [(4, .int (Int32.ofInt 0)), (2, .long (Int64.ofNat 0)), (0, .ref 69), (1, .int a1)]) (st1 := []) 4 (fun _ _ _ _ => rfl) ?_
      exact fl_M_empty_L36 fu (Int64.ofNat 0) (Int32.ofInt 0) h12 [(4, .int (Int32.ofInt 0)), (2, .long (Int64.ofNat 0)), (0, .ref 69), (1, .int a1)] _ hS13 ⟨rfl, rfl, rfl, rfl, trivial⟩ h
    | false =>
      have h := cd_f hb11 h
      refine py_if (pc := 20) (len := 3) false rfl hb11 ?_
      refine py_its (pc := 23) (pc1 := 25) (lv1 := [(0, .ref 69), (1, .int a1)]) (st1 := [.int (Int8.ofInt (-3)).toInt32]) 1 (fun _ _ _ _ => rfl) ?_
      have h := Option.some.inj h
      subst h
      exact py_ir (pc := 25) (len := 1) (ty := .int) rfl rfl rfl hS10
  | false =>
    have h := cd_f hb6 h
    refine py_if (pc := 10) (len := 3) false rfl hb6 ?_
    refine py_its (pc := 13) (pc1 := 14) (lv1 := [(0, .ref 69), (1, .int a1)]) (st1 := [.int (Int32.ofInt (-1))]) 1 (fun _ _ _ _ => rfl) ?_
    have h := Option.some.inj h
    subst h
    exact py_ir (pc := 14) (len := 1) (ty := .int) rfl rfl rfl hS2
/-! M_vain -/
noncomputable def fn_M_vain (a1 : Int32) (hp : px_H) : Option (Int32 × px_H) :=
  sb (wF hp 69 0 (.int (Int32.ofInt 0))) fun h1 =>
  (fn_M_isLeft a1 h1).bind fun q3 =>
  bif px_cmp .ne q3 0 then
    (fn_M_asks a1 h1).bind fun q7 =>
    bif px_cmp .ne q7.1 0 then
      sb (wF q7.2 69 1 (.int (Int32.ofInt 0))) fun h12 =>
      (fn_M_enters (gL h12 69 45) h12).bind fun q14 =>
      (fn_M_enters (gL q14 69 46) q14).bind fun q18 =>
      some ((Int32.ofInt 0), q18)
    else
      some ((Int8.ofInt (-3)).toInt32, q7.2)
  else
    some ((Int32.ofInt (-1)), h1)
theorem fx_M_vain {a1 : Int32} {hp : px_H} {res : Int32 × px_H} (hS : oS hp) (h : fn_M_vain a1 hp = some res) : px_C nm_T nm_P mi_M_vain [.ref 69, .int a1] hp (some (.int res.1)) res.2 ∧ oS res.2 := by
  unfold fn_M_vain at h
  refine py_C (M := mm_M_vain) rfl (Nat.le_of_ble_eq_true rfl) ?_
  show px_Y mm_M_vain 0 [(0, .ref 69), (1, .int a1)] [] hp _ _
  refine py_its (pc := 0) (pc1 := 2) (lv1 := [(0, .ref 69), (1, .int a1)]) (st1 := [.int (Int32.ofInt 0), .ref 69]) 2 (fun _ _ _ _ => rfl) ?_
  have h := sb_e h
  refine py_pI (pc := 2) (len := 3) (cs := [69]) rfl rfl rfl List.mem_cons_self hS rfl rfl rfl rfl ?_
  have hS2 : oS (wF hp 69 0 (.int (Int32.ofInt 0))) := oS_wI (cs := [69]) (ci := 9) rfl List.mem_cons_self hS
  generalize (wF hp 69 0 (.int (Int32.ofInt 0))) = h1 at h hS2 ⊢
  refine py_its (pc := 5) (pc1 := 7) (lv1 := [(0, .ref 69), (1, .int a1)]) (st1 := [.int a1, .ref 69]) 2 (fun _ _ _ _ => rfl) ?_
  obtain ⟨q3, hq4, h⟩ := bd_e h
  have hC5 := (fx_M_isLeft hS2 hq4).1
  refine py_vi (pc := 7) (mi := mi_M_isLeft) (cs := [69]) (N := mm_M_isLeft) rfl rfl rfl rfl List.mem_cons_self hS2 rfl (Nat.le_of_ble_eq_true rfl) (Nat.le_of_ble_eq_true rfl) rfl rfl hC5 ?_
  show px_Y mm_M_vain 10 [(0, .ref 69), (1, .int a1)] [.int q3] h1 _ _
  cases hb6 : px_cmp .ne q3 0 with
  | true =>
    have h := cd_t hb6 h
    refine py_if (pc := 10) (len := 3) true rfl hb6 ?_
    refine py_its (pc := 15) (pc1 := 17) (lv1 := [(0, .ref 69), (1, .int a1)]) (st1 := [.int a1, .ref 69]) 2 (fun _ _ _ _ => rfl) ?_
    obtain ⟨q7, hq8, h⟩ := bd_e h
    obtain ⟨hC9, hS10⟩ := fx_M_asks hS2 hq8
    refine py_vi (pc := 17) (mi := mi_M_asks) (cs := [69]) (N := mm_M_asks) rfl rfl rfl rfl List.mem_cons_self hS2 rfl (Nat.le_of_ble_eq_true rfl) (Nat.le_of_ble_eq_true rfl) rfl rfl hC9 ?_
    show px_Y mm_M_vain 20 [(0, .ref 69), (1, .int a1)] [.int q7.1] q7.2 _ _
    cases hb11 : px_cmp .ne q7.1 0 with
    | true =>
      have h := cd_t hb11 h
      refine py_if (pc := 20) (len := 3) true rfl hb11 ?_
      refine py_its (pc := 26) (pc1 := 28) (lv1 := [(0, .ref 69), (1, .int a1)]) (st1 := [.int (Int32.ofInt 0), .ref 69]) 2 (fun _ _ _ _ => rfl) ?_
      have h := sb_e h
      refine py_pI (pc := 28) (len := 3) (cs := [69]) rfl rfl rfl List.mem_cons_self hS10 rfl rfl rfl rfl ?_
      have hS13 : oS (wF q7.2 69 1 (.int (Int32.ofInt 0))) := oS_wI (cs := [69]) (ci := 9) rfl List.mem_cons_self hS10
      generalize (wF q7.2 69 1 (.int (Int32.ofInt 0))) = h12 at h hS13 ⊢
      refine py_its (pc := 31) (pc1 := 33) (lv1 := [(0, .ref 69), (1, .int a1)]) (st1 := [.ref 69, .ref 69]) 2 (fun _ _ _ _ => rfl) ?_
      refine py_gL (pc := 33) (len := 3) (cs := [69]) rfl rfl rfl List.mem_cons_self hS13 ?_
      obtain ⟨q14, hq15, h⟩ := bd_e h
      obtain ⟨hC16, hS17⟩ := fx_M_enters hS13 hq15
      refine py_vi (pc := 36) (mi := mi_M_enters) (cs := [69]) (N := mm_M_enters) rfl rfl rfl rfl List.mem_cons_self hS13 rfl (Nat.le_of_ble_eq_true rfl) (Nat.le_of_ble_eq_true rfl) rfl rfl hC16 ?_
      show px_Y mm_M_vain 39 [(0, .ref 69), (1, .int a1)] [] q14 _ _
      refine py_its (pc := 39) (pc1 := 41) (lv1 := [(0, .ref 69), (1, .int a1)]) (st1 := [.ref 69, .ref 69]) 2 (fun _ _ _ _ => rfl) ?_
      refine py_gL (pc := 41) (len := 3) (cs := [69]) rfl rfl rfl List.mem_cons_self hS17 ?_
      obtain ⟨q18, hq19, h⟩ := bd_e h
      obtain ⟨hC20, hS21⟩ := fx_M_enters hS17 hq19
      refine py_vi (pc := 44) (mi := mi_M_enters) (cs := [69]) (N := mm_M_enters) rfl rfl rfl rfl List.mem_cons_self hS17 rfl (Nat.le_of_ble_eq_true rfl) (Nat.le_of_ble_eq_true rfl) rfl rfl hC20 ?_
      show px_Y mm_M_vain 47 [(0, .ref 69), (1, .int a1)] [] q18 _ _
      refine py_its (pc := 47) (pc1 := 48) (lv1 := [(0, .ref 69), (1, .int a1)]) (st1 := [.int (Int32.ofInt 0)]) 1 (fun _ _ _ _ => rfl) ?_
      have h := Option.some.inj h
      subst h
      exact py_ir (pc := 48) (len := 1) (ty := .int) rfl rfl rfl hS21
    | false =>
      have h := cd_f hb11 h
      refine py_if (pc := 20) (len := 3) false rfl hb11 ?_
      refine py_its (pc := 23) (pc1 := 25) (lv1 := [(0, .ref 69), (1, .int a1)]) (st1 := [.int (Int8.ofInt (-3)).toInt32]) 1 (fun _ _ _ _ => rfl) ?_
      have h := Option.some.inj h
      subst h
      exact py_ir (pc := 25) (len := 1) (ty := .int) rfl rfl rfl hS10
  | false =>
    have h := cd_f hb6 h
    refine py_if (pc := 10) (len := 3) false rfl hb6 ?_
    refine py_its (pc := 13) (pc1 := 14) (lv1 := [(0, .ref 69), (1, .int a1)]) (st1 := [.int (Int32.ofInt (-1))]) 1 (fun _ _ _ _ => rfl) ?_
    have h := Option.some.inj h
    subst h
    exact py_ir (pc := 14) (len := 1) (ty := .int) rfl rfl rfl hS2
/-! M_housed -/
noncomputable def fb_M_housed_L4 (v1 : Int32) (hp : px_H) (rc : Int32 → Int32 → Option (Int32)) (v2 : Int32) (v3 : Int32) : Option (Int32) :=
  bif px_cmp .ge v3 (gI hp 69 3) then
    some v2
  else
    bif px_inR v3 10 then
    bif px_cmp .ne (aI hp 71 v3.toNatClampNeg) v1 then
      rc (v2 ||| (Int32.ofInt 0)) (v3 + Int32.ofInt 1)
    else
      rc (v2 ||| ((Int32.ofInt 1) <<< (v3 &&& 31))) (v3 + Int32.ofInt 1)
    else none
noncomputable def fn_M_housed_L4 (v1 : Int32) (hp : px_H) : Nat → Int32 → Int32 → Option (Int32)
  | 0 => fun _ _ => none
  | n + 1 => fb_M_housed_L4 v1 hp (fn_M_housed_L4 v1 hp n)
theorem fl_M_housed_L4 {v1 : Int32} {hp : px_H}  : ∀ (n : Nat) (v2 : Int32) (v3 : Int32) (lv : List (Nat × Value)) (res : Int32), oS hp → lk lv [(0, .ref 69), (1, .int v1), (2, .int v2), (3, .int v3)] → fn_M_housed_L4 v1 hp n v2 v3 = some res → px_Y mm_M_housed 4 lv [] hp (some (.int res)) hp := by
  intro n
  induction n with
  | zero =>
    intro v2 v3 lv res hS hk h
    cases h
  | succ n ih =>
    intro v2 v3 lv res hS hk h
    have h : fb_M_housed_L4 v1 hp (fn_M_housed_L4 v1 hp n) v2 v3 = some res := h
    unfold fb_M_housed_L4 at h
    refine py_iln (pc := 4) (len := 1) (j := 3) rfl hk rfl ?_
    refine py_aln (pc := 5) (len := 1) (j := 0) rfl hk rfl ?_
    refine py_gI (pc := 6) (len := 3) (cs := [69]) rfl rfl rfl List.mem_cons_self hS ?_
    cases hb1 : px_cmp .ge v3 (gI hp 69 3) with
    | true =>
      have h := cd_t hb1 h
      refine py_ic (pc := 9) (len := 3) true rfl hb1 ?_
      refine py_iln (pc := 38) (len := 1) (j := 2) rfl hk rfl ?_
      have h := Option.some.inj h
      subst h
      exact py_ir (pc := 39) (len := 1) (ty := .int) rfl rfl rfl hS
    | false =>
      have h := cd_f hb1 h
      refine py_ic (pc := 9) (len := 3) false rfl hb1 ?_
      refine py_iln (pc := 12) (len := 1) (j := 2) rfl hk rfl ?_
      refine py_aln (pc := 13) (len := 1) (j := 0) rfl hk rfl ?_
      refine py_g1 71 (pc := 14) (len := 3) (cs := [69]) rfl rfl rfl List.mem_cons_self hS ?_
      refine py_iln (pc := 17) (len := 1) (j := 3) rfl hk rfl ?_
      obtain ⟨hi2, h⟩ := cd_n h
      refine py_ai (pc := 18) (len := 1) (cs := [71]) (t := 28) (n := 10) rfl rfl rfl hi2 List.mem_cons_self hS ?_
      refine py_iln (pc := 19) (len := 1) (j := 1) rfl hk rfl ?_
      cases hb3 : px_cmp .ne (aI hp 71 v3.toNatClampNeg) v1 with
      | true =>
        have h := cd_t hb3 h
        refine py_ic (pc := 20) (len := 3) true rfl hb3 ?_
        refine py_its (pc := 29) (pc1 := 31) (lv1 := lv) (st1 := [.int (v2 ||| (Int32.ofInt 0))]) 2 (fun _ _ _ _ => rfl) ?_
        refine py_sin (pc := 31) (len := 1) (j := 2) rfl rfl hk (fun lv4 hk5 => ?_)
        have hk5 : lk lv4 [(2, .int (v2 ||| (Int32.ofInt 0))), (0, .ref 69), (1, .int v1), (3, .int v3)] := hk5
        refine py_inc (pc := 32) (len := 3) (j := 3) (n := 1) rfl rfl hk5 rfl (fun lv6 hk7 => ?_)
        have hk7 : lk lv6 [(3, .int (v3 + Int32.ofInt 1)), (2, .int (v2 ||| (Int32.ofInt 0))), (0, .ref 69), (1, .int v1)] := hk7
        refine py_its (pc := 35) (pc1 := 4) (lv1 := lv6) (st1 := []) 1 (fun _ _ _ _ => rfl) ?_
        exact ih (v2 ||| (Int32.ofInt 0)) (v3 + Int32.ofInt 1) lv6 _ hS ⟨lk_find hk7 rfl, lk_find hk7 rfl, lk_find hk7 rfl, lk_find hk7 rfl, trivial⟩ h
      | false =>
        have h := cd_f hb3 h
        refine py_ic (pc := 20) (len := 3) false rfl hb3 ?_
        refine py_its (pc := 23) (pc1 := 24) (lv1 := lv) (st1 := [.int (Int32.ofInt 1), .int v2]) 1 (fun _ _ _ _ => rfl) ?_
        refine py_iln (pc := 24) (len := 1) (j := 3) rfl hk rfl ?_
        refine py_its (pc := 25) (pc1 := 31) (lv1 := lv) (st1 := [.int (v2 ||| ((Int32.ofInt 1) <<< (v3 &&& 31)))]) 3 (fun _ _ _ _ => rfl) ?_
        refine py_sin (pc := 31) (len := 1) (j := 2) rfl rfl hk (fun lv8 hk9 => ?_)
        have hk9 : lk lv8 [(2, .int (v2 ||| ((Int32.ofInt 1) <<< (v3 &&& 31)))), (0, .ref 69), (1, .int v1), (3, .int v3)] := hk9
        refine py_inc (pc := 32) (len := 3) (j := 3) (n := 1) rfl rfl hk9 rfl (fun lv10 hk11 => ?_)
        have hk11 : lk lv10 [(3, .int (v3 + Int32.ofInt 1)), (2, .int (v2 ||| ((Int32.ofInt 1) <<< (v3 &&& 31)))), (0, .ref 69), (1, .int v1)] := hk11
        refine py_its (pc := 35) (pc1 := 4) (lv1 := lv10) (st1 := []) 1 (fun _ _ _ _ => rfl) ?_
        exact ih (v2 ||| ((Int32.ofInt 1) <<< (v3 &&& 31))) (v3 + Int32.ofInt 1) lv10 _ hS ⟨lk_find hk11 rfl, lk_find hk11 rfl, lk_find hk11 rfl, lk_find hk11 rfl, trivial⟩ h
noncomputable def fn_M_housed (a1 : Int32) (hp : px_H) : Option (Int32) :=
  fn_M_housed_L4 a1 hp fu (Int32.ofInt 0) (Int32.ofInt 0)
theorem fx_M_housed {a1 : Int32} {hp : px_H} {res : Int32} (hS : oS hp) (h : fn_M_housed a1 hp = some res) : px_C nm_T nm_P mi_M_housed [.ref 69, .int a1] hp (some (.int res)) hp ∧ oS hp := by
  unfold fn_M_housed at h
  refine py_C (M := mm_M_housed) rfl (Nat.le_of_ble_eq_true rfl) ?_
  show px_Y mm_M_housed 0 [(0, .ref 69), (1, .int a1)] [] hp _ _
  refine py_its (pc := 0) (pc1 := 4) (lv1 := [(3, .int (Int32.ofInt 0)), (2, .int (Int32.ofInt 0)), (0, .ref 69), (1, .int a1)]) (st1 := []) 4 (fun _ _ _ _ => rfl) ?_
  exact fl_M_housed_L4 fu (Int32.ofInt 0) (Int32.ofInt 0) [(3, .int (Int32.ofInt 0)), (2, .int (Int32.ofInt 0)), (0, .ref 69), (1, .int a1)] _ hS ⟨rfl, rfl, rfl, rfl, trivial⟩ h
/-! M_house -/
noncomputable def fb_M_house_L43 (v1 : Int32) (rc : Int64 → Int32 → px_H → Option (Int32 × px_H)) (v3 : Int64) (v5 : Int32) (hp : px_H) : Option (Int32 × px_H) :=
  bif px_cmp .ge v5 (gI hp 69 3) then
    sb (wF hp 69 1 (.int (Int32.ofInt 0))) fun h14 =>
    (fn_M_housed v1 h14).bind fun q16 =>
    (fn_M_anyOf q16 h14).bind fun q19 =>
    (fn_M_enters q19 h14).bind fun q22 =>
    (fn_M_enters v3 q22).bind fun q26 =>
    some ((Int32.ofInt 0), q26)
  else
    bif px_inR v5 10 then
    bif px_cmp .ne (aI hp 71 v5.toNatClampNeg) v1 then
      rc (v3 + (Int64.ofNat 0)) (v5 + Int32.ofInt 1) hp
    else
      (fn_M_anyOf ((Int32.ofInt 1) <<< (v5 &&& 31)) hp).bind fun q36 =>
      rc (v3 + q36) (v5 + Int32.ofInt 1) hp
    else none
noncomputable def fn_M_house_L43 (v1 : Int32) : Nat → Int64 → Int32 → px_H → Option (Int32 × px_H)
  | 0 => fun _ _ _ => none
  | n + 1 => fb_M_house_L43 v1 (fn_M_house_L43 v1 n)
theorem fl_M_house_L43 {v1 : Int32}  : ∀ (n : Nat) (v3 : Int64) (v5 : Int32) (hp : px_H) (lv : List (Nat × Value)) (res : Int32 × px_H), oS hp → lk lv [(0, .ref 69), (1, .int v1), (3, .long v3), (5, .int v5)] → fn_M_house_L43 v1 n v3 v5 hp = some res → px_Y mm_M_house 43 lv [] hp (some (.int res.1)) res.2 := by
  intro n
  induction n with
  | zero =>
    intro v3 v5 hp lv res hS hk h
    cases h
  | succ n ih =>
    intro v3 v5 hp lv res hS hk h
    have h : fb_M_house_L43 v1 (fn_M_house_L43 v1 n) v3 v5 hp = some res := h
    unfold fb_M_house_L43 at h
    refine py_il (pc := 43) (len := 2) (j := 5) rfl hk rfl ?_
    refine py_aln (pc := 45) (len := 1) (j := 0) rfl hk rfl ?_
    refine py_gI (pc := 46) (len := 3) (cs := [69]) rfl rfl rfl List.mem_cons_self hS ?_
    cases hb13 : px_cmp .ge v5 (gI hp 69 3) with
    | true =>
      have h := cd_t hb13 h
      refine py_ic (pc := 49) (len := 3) true rfl hb13 ?_
      refine py_aln (pc := 84) (len := 1) (j := 0) rfl hk rfl ?_
      refine py_its (pc := 85) (pc1 := 86) (lv1 := lv) (st1 := [.int (Int32.ofInt 0), .ref 69]) 1 (fun _ _ _ _ => rfl) ?_
      have h := sb_e h
      refine py_pI (pc := 86) (len := 3) (cs := [69]) rfl rfl rfl List.mem_cons_self hS rfl rfl rfl rfl ?_
      have hS15 : oS (wF hp 69 1 (.int (Int32.ofInt 0))) := oS_wI (cs := [69]) (ci := 9) rfl List.mem_cons_self hS
      generalize (wF hp 69 1 (.int (Int32.ofInt 0))) = h14 at h hS15 ⊢
      refine py_aln (pc := 89) (len := 1) (j := 0) rfl hk rfl ?_
      refine py_aln (pc := 90) (len := 1) (j := 0) rfl hk rfl ?_
      refine py_aln (pc := 91) (len := 1) (j := 0) rfl hk rfl ?_
      refine py_iln (pc := 92) (len := 1) (j := 1) rfl hk rfl ?_
      obtain ⟨q16, hq17, h⟩ := bd_e h
      have hC18 := (fx_M_housed hS15 hq17).1
      refine py_vi (pc := 93) (mi := mi_M_housed) (cs := [69]) (N := mm_M_housed) rfl rfl rfl rfl List.mem_cons_self hS15 rfl (Nat.le_of_ble_eq_true rfl) (Nat.le_of_ble_eq_true rfl) rfl rfl hC18 ?_
      show px_Y mm_M_house 96 lv [.int q16, .ref 69, .ref 69] h14 _ _
      obtain ⟨q19, hq20, h⟩ := bd_e h
      have hC21 := (fx_M_anyOf hS15 hq20).1
      refine py_vi (pc := 96) (mi := mi_M_anyOf) (cs := [69]) (N := mm_M_anyOf) rfl rfl rfl rfl List.mem_cons_self hS15 rfl (Nat.le_of_ble_eq_true rfl) (Nat.le_of_ble_eq_true rfl) rfl rfl hC21 ?_
      show px_Y mm_M_house 99 lv [.long q19, .ref 69] h14 _ _
      obtain ⟨q22, hq23, h⟩ := bd_e h
      obtain ⟨hC24, hS25⟩ := fx_M_enters hS15 hq23
      refine py_vi (pc := 99) (mi := mi_M_enters) (cs := [69]) (N := mm_M_enters) rfl rfl rfl rfl List.mem_cons_self hS15 rfl (Nat.le_of_ble_eq_true rfl) (Nat.le_of_ble_eq_true rfl) rfl rfl hC24 ?_
      show px_Y mm_M_house 102 lv [] q22 _ _
      refine py_aln (pc := 102) (len := 1) (j := 0) rfl hk rfl ?_
      refine py_lln (pc := 103) (len := 1) (j := 3) rfl hk rfl ?_
      obtain ⟨q26, hq27, h⟩ := bd_e h
      obtain ⟨hC28, hS29⟩ := fx_M_enters hS25 hq27
      refine py_vi (pc := 104) (mi := mi_M_enters) (cs := [69]) (N := mm_M_enters) rfl rfl rfl rfl List.mem_cons_self hS25 rfl (Nat.le_of_ble_eq_true rfl) (Nat.le_of_ble_eq_true rfl) rfl rfl hC28 ?_
      show px_Y mm_M_house 107 lv [] q26 _ _
      refine py_its (pc := 107) (pc1 := 108) (lv1 := lv) (st1 := [.int (Int32.ofInt 0)]) 1 (fun _ _ _ _ => rfl) ?_
      have h := Option.some.inj h
      subst h
      exact py_ir (pc := 108) (len := 1) (ty := .int) rfl rfl rfl hS29
    | false =>
      have h := cd_f hb13 h
      refine py_ic (pc := 49) (len := 3) false rfl hb13 ?_
      refine py_lln (pc := 52) (len := 1) (j := 3) rfl hk rfl ?_
      refine py_aln (pc := 53) (len := 1) (j := 0) rfl hk rfl ?_
      refine py_g1 71 (pc := 54) (len := 3) (cs := [69]) rfl rfl rfl List.mem_cons_self hS ?_
      refine py_il (pc := 57) (len := 2) (j := 5) rfl hk rfl ?_
      obtain ⟨hi30, h⟩ := cd_n h
      refine py_ai (pc := 59) (len := 1) (cs := [71]) (t := 28) (n := 10) rfl rfl rfl hi30 List.mem_cons_self hS ?_
      refine py_iln (pc := 60) (len := 1) (j := 1) rfl hk rfl ?_
      cases hb31 : px_cmp .ne (aI hp 71 v5.toNatClampNeg) v1 with
      | true =>
        have h := cd_t hb31 h
        refine py_ic (pc := 61) (len := 3) true rfl hb31 ?_
        refine py_its (pc := 75) (pc1 := 77) (lv1 := lv) (st1 := [.long (v3 + (Int64.ofNat 0))]) 2 (fun _ _ _ _ => rfl) ?_
        refine py_sln (pc := 77) (len := 1) (j := 3) rfl rfl hk (fun lv32 hk33 => ?_)
        have hk33 : lk lv32 [(3, .long (v3 + (Int64.ofNat 0))), (0, .ref 69), (1, .int v1), (5, .int v5)] := hk33
        refine py_inc (pc := 78) (len := 3) (j := 5) (n := 1) rfl rfl hk33 rfl (fun lv34 hk35 => ?_)
        have hk35 : lk lv34 [(5, .int (v5 + Int32.ofInt 1)), (3, .long (v3 + (Int64.ofNat 0))), (0, .ref 69), (1, .int v1)] := hk35
        refine py_its (pc := 81) (pc1 := 43) (lv1 := lv34) (st1 := []) 1 (fun _ _ _ _ => rfl) ?_
        exact ih (v3 + (Int64.ofNat 0)) (v5 + Int32.ofInt 1) hp lv34 _ hS ⟨lk_find hk35 rfl, lk_find hk35 rfl, lk_find hk35 rfl, lk_find hk35 rfl, trivial⟩ h
      | false =>
        have h := cd_f hb31 h
        refine py_ic (pc := 61) (len := 3) false rfl hb31 ?_
        refine py_aln (pc := 64) (len := 1) (j := 0) rfl hk rfl ?_
        refine py_its (pc := 65) (pc1 := 66) (lv1 := lv) (st1 := [.int (Int32.ofInt 1), .ref 69, .long v3]) 1 (fun _ _ _ _ => rfl) ?_
        refine py_il (pc := 66) (len := 2) (j := 5) rfl hk rfl ?_
        refine py_its (pc := 68) (pc1 := 69) (lv1 := lv) (st1 := [.int ((Int32.ofInt 1) <<< (v5 &&& 31)), .ref 69, .long v3]) 1 (fun _ _ _ _ => rfl) ?_
        obtain ⟨q36, hq37, h⟩ := bd_e h
        have hC38 := (fx_M_anyOf hS hq37).1
        refine py_vi (pc := 69) (mi := mi_M_anyOf) (cs := [69]) (N := mm_M_anyOf) rfl rfl rfl rfl List.mem_cons_self hS rfl (Nat.le_of_ble_eq_true rfl) (Nat.le_of_ble_eq_true rfl) rfl rfl hC38 ?_
        show px_Y mm_M_house 72 lv [.long q36, .long v3] hp _ _
        refine py_its (pc := 72) (pc1 := 77) (lv1 := lv) (st1 := [.long (v3 + q36)]) 2 (fun _ _ _ _ => rfl) ?_
        refine py_sln (pc := 77) (len := 1) (j := 3) rfl rfl hk (fun lv39 hk40 => ?_)
        have hk40 : lk lv39 [(3, .long (v3 + q36)), (0, .ref 69), (1, .int v1), (5, .int v5)] := hk40
        refine py_inc (pc := 78) (len := 3) (j := 5) (n := 1) rfl rfl hk40 rfl (fun lv41 hk42 => ?_)
        have hk42 : lk lv41 [(5, .int (v5 + Int32.ofInt 1)), (3, .long (v3 + q36)), (0, .ref 69), (1, .int v1)] := hk42
        refine py_its (pc := 81) (pc1 := 43) (lv1 := lv41) (st1 := []) 1 (fun _ _ _ _ => rfl) ?_
        exact ih (v3 + q36) (v5 + Int32.ofInt 1) hp lv41 _ hS ⟨lk_find hk42 rfl, lk_find hk42 rfl, lk_find hk42 rfl, lk_find hk42 rfl, trivial⟩ h
noncomputable def fn_M_house (a1 : Int32) (a2 : Int32) (hp : px_H) : Option (Int32 × px_H) :=
  sb (wF hp 69 0 (.int (Int32.ofInt 0))) fun h1 =>
  bif px_cmp .eq (sx_in a1.toInt64 (Int64.ofNat 0) (Int64.ofInt 5)) 0 then
    some ((Int32.ofInt (-1)), h1)
  else
    (fn_M_isLeft a2 h1).bind fun q4 =>
    bif px_cmp .ne q4 0 then
      (fn_M_asks a2 h1).bind fun q8 =>
      bif px_cmp .ne q8.1 0 then
        fn_M_house_L43 a1 fu (Int64.ofNat 0) (Int32.ofInt 0) q8.2
      else
        some ((Int8.ofInt (-3)).toInt32, q8.2)
    else
      some ((Int32.ofInt (-1)), h1)
theorem fx_M_house {a1 : Int32} {a2 : Int32} {hp : px_H} {res : Int32 × px_H} (hS : oS hp) (h : fn_M_house a1 a2 hp = some res) : px_C nm_T nm_P mi_M_house [.ref 69, .int a1, .int a2] hp (some (.int res.1)) res.2 ∧ oS res.2 := by
  unfold fn_M_house at h
  refine py_C (M := mm_M_house) rfl (Nat.le_of_ble_eq_true rfl) ?_
  show px_Y mm_M_house 0 [(0, .ref 69), (1, .int a1), (2, .int a2)] [] hp _ _
  refine py_its (pc := 0) (pc1 := 2) (lv1 := [(0, .ref 69), (1, .int a1), (2, .int a2)]) (st1 := [.int (Int32.ofInt 0), .ref 69]) 2 (fun _ _ _ _ => rfl) ?_
  have h := sb_e h
  refine py_pI (pc := 2) (len := 3) (cs := [69]) rfl rfl rfl List.mem_cons_self hS rfl rfl rfl rfl ?_
  have hS2 : oS (wF hp 69 0 (.int (Int32.ofInt 0))) := oS_wI (cs := [69]) (ci := 9) rfl List.mem_cons_self hS
  generalize (wF hp 69 0 (.int (Int32.ofInt 0))) = h1 at h hS2 ⊢
  refine py_its (pc := 5) (pc1 := 11) (lv1 := [(0, .ref 69), (1, .int a1), (2, .int a2)]) (st1 := [.long (Int64.ofInt 5), .long (Int64.ofNat 0), .long a1.toInt64]) 4 (fun _ _ _ _ => rfl) ?_
  refine py_st (pc := 11) (mi := mi_M_in) (N := mm_M_in) rfl rfl rfl (Nat.le_of_ble_eq_true rfl) (Nat.le_of_ble_eq_true rfl) rfl rfl (sx_in_C a1.toInt64 (Int64.ofNat 0) (Int64.ofInt 5) h1) ?_
  show px_Y mm_M_house 14 [(0, .ref 69), (1, .int a1), (2, .int a2)] [.int (sx_in a1.toInt64 (Int64.ofNat 0) (Int64.ofInt 5))] h1 _ _
  cases hb3 : px_cmp .eq (sx_in a1.toInt64 (Int64.ofNat 0) (Int64.ofInt 5)) 0 with
  | true =>
    have h := cd_t hb3 h
    refine py_if (pc := 14) (len := 3) true rfl hb3 ?_
    refine py_its (pc := 25) (pc1 := 26) (lv1 := [(0, .ref 69), (1, .int a1), (2, .int a2)]) (st1 := [.int (Int32.ofInt (-1))]) 1 (fun _ _ _ _ => rfl) ?_
    have h := Option.some.inj h
    subst h
    exact py_ir (pc := 26) (len := 1) (ty := .int) rfl rfl rfl hS2
  | false =>
    have h := cd_f hb3 h
    refine py_if (pc := 14) (len := 3) false rfl hb3 ?_
    refine py_its (pc := 17) (pc1 := 19) (lv1 := [(0, .ref 69), (1, .int a1), (2, .int a2)]) (st1 := [.int a2, .ref 69]) 2 (fun _ _ _ _ => rfl) ?_
    obtain ⟨q4, hq5, h⟩ := bd_e h
    have hC6 := (fx_M_isLeft hS2 hq5).1
    refine py_vi (pc := 19) (mi := mi_M_isLeft) (cs := [69]) (N := mm_M_isLeft) rfl rfl rfl rfl List.mem_cons_self hS2 rfl (Nat.le_of_ble_eq_true rfl) (Nat.le_of_ble_eq_true rfl) rfl rfl hC6 ?_
    show px_Y mm_M_house 22 [(0, .ref 69), (1, .int a1), (2, .int a2)] [.int q4] h1 _ _
    cases hb7 : px_cmp .ne q4 0 with
    | true =>
      have h := cd_t hb7 h
      refine py_if (pc := 22) (len := 3) true rfl hb7 ?_
      refine py_its (pc := 27) (pc1 := 29) (lv1 := [(0, .ref 69), (1, .int a1), (2, .int a2)]) (st1 := [.int a2, .ref 69]) 2 (fun _ _ _ _ => rfl) ?_
      obtain ⟨q8, hq9, h⟩ := bd_e h
      obtain ⟨hC10, hS11⟩ := fx_M_asks hS2 hq9
      refine py_vi (pc := 29) (mi := mi_M_asks) (cs := [69]) (N := mm_M_asks) rfl rfl rfl rfl List.mem_cons_self hS2 rfl (Nat.le_of_ble_eq_true rfl) (Nat.le_of_ble_eq_true rfl) rfl rfl hC10 ?_
      show px_Y mm_M_house 32 [(0, .ref 69), (1, .int a1), (2, .int a2)] [.int q8.1] q8.2 _ _
      cases hb12 : px_cmp .ne q8.1 0 with
      | true =>
        have h := cd_t hb12 h
        refine py_if (pc := 32) (len := 3) true rfl hb12 ?_
        refine py_its (pc := 38) (pc1 := 43) (lv1 := [(5, .int (Int32.ofInt 0)), (3, .long (Int64.ofNat 0)), (0, .ref 69), (1, .int a1), (2, .int a2)]) (st1 := []) 4 (fun _ _ _ _ => rfl) ?_
        exact fl_M_house_L43 fu (Int64.ofNat 0) (Int32.ofInt 0) q8.2 [(5, .int (Int32.ofInt 0)), (3, .long (Int64.ofNat 0)), (0, .ref 69), (1, .int a1), (2, .int a2)] _ hS11 ⟨rfl, rfl, rfl, rfl, trivial⟩ h
      | false =>
        have h := cd_f hb12 h
        refine py_if (pc := 32) (len := 3) false rfl hb12 ?_
        refine py_its (pc := 35) (pc1 := 37) (lv1 := [(0, .ref 69), (1, .int a1), (2, .int a2)]) (st1 := [.int (Int8.ofInt (-3)).toInt32]) 1 (fun _ _ _ _ => rfl) ?_
        have h := Option.some.inj h
        subst h
        exact py_ir (pc := 37) (len := 1) (ty := .int) rfl rfl rfl hS11
    | false =>
      have h := cd_f hb7 h
      refine py_if (pc := 22) (len := 3) false rfl hb7 ?_
      refine py_its (pc := 25) (pc1 := 26) (lv1 := [(0, .ref 69), (1, .int a1), (2, .int a2)]) (st1 := [.int (Int32.ofInt (-1))]) 1 (fun _ _ _ _ => rfl) ?_
      have h := Option.some.inj h
      subst h
      exact py_ir (pc := 26) (len := 1) (ty := .int) rfl rfl rfl hS2
/-! M_ways -/
noncomputable def fn_M_ways (a1 : Int32) (hp : px_H) : Option (Int32 × px_H) :=
  sb (wF hp 69 0 (.int (Int32.ofInt 0))) fun h1 =>
  (fn_M_isLeft a1 h1).bind fun q3 =>
  bif px_cmp .ne q3 0 then
    (fn_M_reachesNow a1 h1).bind fun q7 =>
    bif px_cmp .eq q7.1 0 then
      some ((Int8.ofInt (-3)).toInt32, q7.2)
    else
      some ((aI q7.2 96 (Int32.ofInt 2).toNatClampNeg), q7.2)
  else
    some ((Int32.ofInt (-1)), h1)
theorem fx_M_ways {a1 : Int32} {hp : px_H} {res : Int32 × px_H} (hS : oS hp) (h : fn_M_ways a1 hp = some res) : px_C nm_T nm_P mi_M_ways [.ref 69, .int a1] hp (some (.int res.1)) res.2 ∧ oS res.2 := by
  unfold fn_M_ways at h
  refine py_C (M := mm_M_ways) rfl (Nat.le_of_ble_eq_true rfl) ?_
  show px_Y mm_M_ways 0 [(0, .ref 69), (1, .int a1)] [] hp _ _
  refine py_its (pc := 0) (pc1 := 2) (lv1 := [(0, .ref 69), (1, .int a1)]) (st1 := [.int (Int32.ofInt 0), .ref 69]) 2 (fun _ _ _ _ => rfl) ?_
  have h := sb_e h
  refine py_pI (pc := 2) (len := 3) (cs := [69]) rfl rfl rfl List.mem_cons_self hS rfl rfl rfl rfl ?_
  have hS2 : oS (wF hp 69 0 (.int (Int32.ofInt 0))) := oS_wI (cs := [69]) (ci := 9) rfl List.mem_cons_self hS
  generalize (wF hp 69 0 (.int (Int32.ofInt 0))) = h1 at h hS2 ⊢
  refine py_its (pc := 5) (pc1 := 7) (lv1 := [(0, .ref 69), (1, .int a1)]) (st1 := [.int a1, .ref 69]) 2 (fun _ _ _ _ => rfl) ?_
  obtain ⟨q3, hq4, h⟩ := bd_e h
  have hC5 := (fx_M_isLeft hS2 hq4).1
  refine py_vi (pc := 7) (mi := mi_M_isLeft) (cs := [69]) (N := mm_M_isLeft) rfl rfl rfl rfl List.mem_cons_self hS2 rfl (Nat.le_of_ble_eq_true rfl) (Nat.le_of_ble_eq_true rfl) rfl rfl hC5 ?_
  show px_Y mm_M_ways 10 [(0, .ref 69), (1, .int a1)] [.int q3] h1 _ _
  cases hb6 : px_cmp .ne q3 0 with
  | true =>
    have h := cd_t hb6 h
    refine py_if (pc := 10) (len := 3) true rfl hb6 ?_
    refine py_its (pc := 15) (pc1 := 17) (lv1 := [(0, .ref 69), (1, .int a1)]) (st1 := [.int a1, .ref 69]) 2 (fun _ _ _ _ => rfl) ?_
    obtain ⟨q7, hq8, h⟩ := bd_e h
    obtain ⟨hC9, hS10⟩ := fx_M_reachesNow hS2 hq8
    refine py_vi (pc := 17) (mi := mi_M_reachesNow) (cs := [69]) (N := mm_M_reachesNow) rfl rfl rfl rfl List.mem_cons_self hS2 rfl (Nat.le_of_ble_eq_true rfl) (Nat.le_of_ble_eq_true rfl) rfl rfl hC9 ?_
    show px_Y mm_M_ways 20 [(0, .ref 69), (1, .int a1)] [.int q7.1] q7.2 _ _
    cases hb11 : px_cmp .eq q7.1 0 with
    | true =>
      have h := cd_t hb11 h
      refine py_if (pc := 20) (len := 3) true rfl hb11 ?_
      refine py_its (pc := 32) (pc1 := 34) (lv1 := [(0, .ref 69), (1, .int a1)]) (st1 := [.int (Int8.ofInt (-3)).toInt32]) 1 (fun _ _ _ _ => rfl) ?_
      have h := Option.some.inj h
      subst h
      exact py_ir (pc := 34) (len := 1) (ty := .int) rfl rfl rfl hS10
    | false =>
      have h := cd_f hb11 h
      refine py_if (pc := 20) (len := 3) false rfl hb11 ?_
      refine py_its (pc := 23) (pc1 := 24) (lv1 := [(0, .ref 69), (1, .int a1)]) (st1 := [.ref 69]) 1 (fun _ _ _ _ => rfl) ?_
      refine py_g1 96 (pc := 24) (len := 3) (cs := [69]) rfl rfl rfl List.mem_cons_self hS10 ?_
      refine py_its (pc := 27) (pc1 := 28) (lv1 := [(0, .ref 69), (1, .int a1)]) (st1 := [.int (Int32.ofInt 2), .ref 96]) 1 (fun _ _ _ _ => rfl) ?_
      refine py_ai (pc := 28) (len := 1) (cs := [96]) (t := 53) (n := 3) rfl rfl rfl rfl List.mem_cons_self hS10 ?_
      refine py_its (pc := 29) (pc1 := 34) (lv1 := [(0, .ref 69), (1, .int a1)]) (st1 := [.int (aI q7.2 96 (Int32.ofInt 2).toNatClampNeg)]) 1 (fun _ _ _ _ => rfl) ?_
      have h := Option.some.inj h
      subst h
      exact py_ir (pc := 34) (len := 1) (ty := .int) rfl rfl rfl hS10
  | false =>
    have h := cd_f hb6 h
    refine py_if (pc := 10) (len := 3) false rfl hb6 ?_
    refine py_its (pc := 13) (pc1 := 14) (lv1 := [(0, .ref 69), (1, .int a1)]) (st1 := [.int (Int32.ofInt (-1))]) 1 (fun _ _ _ _ => rfl) ?_
    have h := Option.some.inj h
    subst h
    exact py_ir (pc := 14) (len := 1) (ty := .int) rfl rfl rfl hS2
/-! M_sureBits -/
noncomputable def fb_M_sureBits_L11 (hp : px_H) (rc : Int32 → Int32 → Option (Int32)) (v1 : Int32) (v2 : Int32) : Option (Int32) :=
  bif px_cmp .ge v2 (aI hp 96 (Int32.ofInt 2).toNatClampNeg) then
    some v1
  else
    bif px_inR v2 3001 then
    rc (v1 &&& (aI hp 98 v2.toNatClampNeg)) (v2 + Int32.ofInt 1)
    else none
noncomputable def fn_M_sureBits_L11 (hp : px_H) : Nat → Int32 → Int32 → Option (Int32)
  | 0 => fun _ _ => none
  | n + 1 => fb_M_sureBits_L11 hp (fn_M_sureBits_L11 hp n)
theorem fl_M_sureBits_L11 {hp : px_H}  : ∀ (n : Nat) (v1 : Int32) (v2 : Int32) (lv : List (Nat × Value)) (res : Int32), oS hp → lk lv [(0, .ref 69), (1, .int v1), (2, .int v2)] → fn_M_sureBits_L11 hp n v1 v2 = some res → px_Y mm_M_sureBits 11 lv [] hp (some (.int res)) hp := by
  intro n
  induction n with
  | zero =>
    intro v1 v2 lv res hS hk h
    cases h
  | succ n ih =>
    intro v1 v2 lv res hS hk h
    have h : fb_M_sureBits_L11 hp (fn_M_sureBits_L11 hp n) v1 v2 = some res := h
    unfold fb_M_sureBits_L11 at h
    refine py_iln (pc := 11) (len := 1) (j := 2) rfl hk rfl ?_
    refine py_aln (pc := 12) (len := 1) (j := 0) rfl hk rfl ?_
    refine py_g1 96 (pc := 13) (len := 3) (cs := [69]) rfl rfl rfl List.mem_cons_self hS ?_
    refine py_its (pc := 16) (pc1 := 17) (lv1 := lv) (st1 := [.int (Int32.ofInt 2), .ref 96, .int v2]) 1 (fun _ _ _ _ => rfl) ?_
    refine py_ai (pc := 17) (len := 1) (cs := [96]) (t := 53) (n := 3) rfl rfl rfl rfl List.mem_cons_self hS ?_
    cases hb1 : px_cmp .ge v2 (aI hp 96 (Int32.ofInt 2).toNatClampNeg) with
    | true =>
      have h := cd_t hb1 h
      refine py_ic (pc := 18) (len := 3) true rfl hb1 ?_
      refine py_iln (pc := 36) (len := 1) (j := 1) rfl hk rfl ?_
      have h := Option.some.inj h
      subst h
      exact py_ir (pc := 37) (len := 1) (ty := .int) rfl rfl rfl hS
    | false =>
      have h := cd_f hb1 h
      refine py_ic (pc := 18) (len := 3) false rfl hb1 ?_
      refine py_iln (pc := 21) (len := 1) (j := 1) rfl hk rfl ?_
      refine py_aln (pc := 22) (len := 1) (j := 0) rfl hk rfl ?_
      refine py_g1 98 (pc := 23) (len := 3) (cs := [69]) rfl rfl rfl List.mem_cons_self hS ?_
      refine py_iln (pc := 26) (len := 1) (j := 2) rfl hk rfl ?_
      obtain ⟨hi2, h⟩ := cd_n h
      refine py_ai (pc := 27) (len := 1) (cs := [98]) (t := 55) (n := 3001) rfl rfl rfl hi2 List.mem_cons_self hS ?_
      refine py_its (pc := 28) (pc1 := 29) (lv1 := lv) (st1 := [.int (v1 &&& (aI hp 98 v2.toNatClampNeg))]) 1 (fun _ _ _ _ => rfl) ?_
      refine py_sin (pc := 29) (len := 1) (j := 1) rfl rfl hk (fun lv3 hk4 => ?_)
      have hk4 : lk lv3 [(1, .int (v1 &&& (aI hp 98 v2.toNatClampNeg))), (0, .ref 69), (2, .int v2)] := hk4
      refine py_inc (pc := 30) (len := 3) (j := 2) (n := 1) rfl rfl hk4 rfl (fun lv5 hk6 => ?_)
      have hk6 : lk lv5 [(2, .int (v2 + Int32.ofInt 1)), (1, .int (v1 &&& (aI hp 98 v2.toNatClampNeg))), (0, .ref 69)] := hk6
      refine py_its (pc := 33) (pc1 := 11) (lv1 := lv5) (st1 := []) 1 (fun _ _ _ _ => rfl) ?_
      exact ih (v1 &&& (aI hp 98 v2.toNatClampNeg)) (v2 + Int32.ofInt 1) lv5 _ hS ⟨lk_find hk6 rfl, lk_find hk6 rfl, lk_find hk6 rfl, trivial⟩ h
noncomputable def fn_M_sureBits  (hp : px_H) : Option (Int32) :=
  fn_M_sureBits_L11 hp fu (((Int32.ofInt 1) <<< ((gI hp 69 3) &&& 31)) - (Int32.ofInt 1)) (Int32.ofInt 0)
theorem fx_M_sureBits  {hp : px_H} {res : Int32} (hS : oS hp) (h : fn_M_sureBits hp = some res) : px_C nm_T nm_P mi_M_sureBits [.ref 69] hp (some (.int res)) hp ∧ oS hp := by
  unfold fn_M_sureBits at h
  refine py_C (M := mm_M_sureBits) rfl (Nat.le_of_ble_eq_true rfl) ?_
  show px_Y mm_M_sureBits 0 [(0, .ref 69)] [] hp _ _
  refine py_its (pc := 0) (pc1 := 2) (lv1 := [(0, .ref 69)]) (st1 := [.ref 69, .int (Int32.ofInt 1)]) 2 (fun _ _ _ _ => rfl) ?_
  refine py_gI (pc := 2) (len := 3) (cs := [69]) rfl rfl rfl List.mem_cons_self hS ?_
  refine py_its (pc := 5) (pc1 := 11) (lv1 := [(2, .int (Int32.ofInt 0)), (1, .int (((Int32.ofInt 1) <<< ((gI hp 69 3) &&& 31)) - (Int32.ofInt 1))), (0, .ref 69)]) (st1 := []) 6 (fun _ _ _ _ => rfl) ?_
  exact fl_M_sureBits_L11 fu (((Int32.ofInt 1) <<< ((gI hp 69 3) &&& 31)) - (Int32.ofInt 1)) (Int32.ofInt 0) [(2, .int (Int32.ofInt 0)), (1, .int (((Int32.ofInt 1) <<< ((gI hp 69 3) &&& 31)) - (Int32.ofInt 1))), (0, .ref 69)] _ hS ⟨rfl, rfl, rfl, trivial⟩ h
/-! M_someBits -/
noncomputable def fb_M_someBits_L4 (hp : px_H) (rc : Int32 → Int32 → Option (Int32)) (v1 : Int32) (v2 : Int32) : Option (Int32) :=
  bif px_cmp .ge v2 (aI hp 96 (Int32.ofInt 2).toNatClampNeg) then
    some v1
  else
    bif px_inR v2 3001 then
    rc (v1 ||| (aI hp 98 v2.toNatClampNeg)) (v2 + Int32.ofInt 1)
    else none
noncomputable def fn_M_someBits_L4 (hp : px_H) : Nat → Int32 → Int32 → Option (Int32)
  | 0 => fun _ _ => none
  | n + 1 => fb_M_someBits_L4 hp (fn_M_someBits_L4 hp n)
theorem fl_M_someBits_L4 {hp : px_H}  : ∀ (n : Nat) (v1 : Int32) (v2 : Int32) (lv : List (Nat × Value)) (res : Int32), oS hp → lk lv [(0, .ref 69), (1, .int v1), (2, .int v2)] → fn_M_someBits_L4 hp n v1 v2 = some res → px_Y mm_M_someBits 4 lv [] hp (some (.int res)) hp := by
  intro n
  induction n with
  | zero =>
    intro v1 v2 lv res hS hk h
    cases h
  | succ n ih =>
    intro v1 v2 lv res hS hk h
    have h : fb_M_someBits_L4 hp (fn_M_someBits_L4 hp n) v1 v2 = some res := h
    unfold fb_M_someBits_L4 at h
    refine py_iln (pc := 4) (len := 1) (j := 2) rfl hk rfl ?_
    refine py_aln (pc := 5) (len := 1) (j := 0) rfl hk rfl ?_
    refine py_g1 96 (pc := 6) (len := 3) (cs := [69]) rfl rfl rfl List.mem_cons_self hS ?_
    refine py_its (pc := 9) (pc1 := 10) (lv1 := lv) (st1 := [.int (Int32.ofInt 2), .ref 96, .int v2]) 1 (fun _ _ _ _ => rfl) ?_
    refine py_ai (pc := 10) (len := 1) (cs := [96]) (t := 53) (n := 3) rfl rfl rfl rfl List.mem_cons_self hS ?_
    cases hb1 : px_cmp .ge v2 (aI hp 96 (Int32.ofInt 2).toNatClampNeg) with
    | true =>
      have h := cd_t hb1 h
      refine py_ic (pc := 11) (len := 3) true rfl hb1 ?_
      refine py_iln (pc := 29) (len := 1) (j := 1) rfl hk rfl ?_
      have h := Option.some.inj h
      subst h
      exact py_ir (pc := 30) (len := 1) (ty := .int) rfl rfl rfl hS
    | false =>
      have h := cd_f hb1 h
      refine py_ic (pc := 11) (len := 3) false rfl hb1 ?_
      refine py_iln (pc := 14) (len := 1) (j := 1) rfl hk rfl ?_
      refine py_aln (pc := 15) (len := 1) (j := 0) rfl hk rfl ?_
      refine py_g1 98 (pc := 16) (len := 3) (cs := [69]) rfl rfl rfl List.mem_cons_self hS ?_
      refine py_iln (pc := 19) (len := 1) (j := 2) rfl hk rfl ?_
      obtain ⟨hi2, h⟩ := cd_n h
      refine py_ai (pc := 20) (len := 1) (cs := [98]) (t := 55) (n := 3001) rfl rfl rfl hi2 List.mem_cons_self hS ?_
      refine py_its (pc := 21) (pc1 := 22) (lv1 := lv) (st1 := [.int (v1 ||| (aI hp 98 v2.toNatClampNeg))]) 1 (fun _ _ _ _ => rfl) ?_
      refine py_sin (pc := 22) (len := 1) (j := 1) rfl rfl hk (fun lv3 hk4 => ?_)
      have hk4 : lk lv3 [(1, .int (v1 ||| (aI hp 98 v2.toNatClampNeg))), (0, .ref 69), (2, .int v2)] := hk4
      refine py_inc (pc := 23) (len := 3) (j := 2) (n := 1) rfl rfl hk4 rfl (fun lv5 hk6 => ?_)
      have hk6 : lk lv5 [(2, .int (v2 + Int32.ofInt 1)), (1, .int (v1 ||| (aI hp 98 v2.toNatClampNeg))), (0, .ref 69)] := hk6
      refine py_its (pc := 26) (pc1 := 4) (lv1 := lv5) (st1 := []) 1 (fun _ _ _ _ => rfl) ?_
      exact ih (v1 ||| (aI hp 98 v2.toNatClampNeg)) (v2 + Int32.ofInt 1) lv5 _ hS ⟨lk_find hk6 rfl, lk_find hk6 rfl, lk_find hk6 rfl, trivial⟩ h
noncomputable def fn_M_someBits  (hp : px_H) : Option (Int32) :=
  fn_M_someBits_L4 hp fu (Int32.ofInt 0) (Int32.ofInt 0)
theorem fx_M_someBits  {hp : px_H} {res : Int32} (hS : oS hp) (h : fn_M_someBits hp = some res) : px_C nm_T nm_P mi_M_someBits [.ref 69] hp (some (.int res)) hp ∧ oS hp := by
  unfold fn_M_someBits at h
  refine py_C (M := mm_M_someBits) rfl (Nat.le_of_ble_eq_true rfl) ?_
  show px_Y mm_M_someBits 0 [(0, .ref 69)] [] hp _ _
  refine py_its (pc := 0) (pc1 := 4) (lv1 := [(2, .int (Int32.ofInt 0)), (1, .int (Int32.ofInt 0)), (0, .ref 69)]) (st1 := []) 4 (fun _ _ _ _ => rfl) ?_
  exact fl_M_someBits_L4 fu (Int32.ofInt 0) (Int32.ofInt 0) [(2, .int (Int32.ofInt 0)), (1, .int (Int32.ofInt 0)), (0, .ref 69)] _ hS ⟨rfl, rfl, rfl, trivial⟩ h
/-! M_sure -/
noncomputable def fn_M_sure (a1 : Int32) (a2 : Int32) (hp : px_H) : Option (Int32 × px_H) :=
  sb (wF hp 69 0 (.int (Int32.ofInt 0))) fun h1 =>
  (fn_M_isLeft a1 h1).bind fun q3 =>
  bif px_cmp .eq q3 0 then
    some ((Int32.ofInt (-1)), h1)
  else
    bif px_cmp .ne (sx_in a2.toInt64 (Int64.ofNat 0) (Int64.ofNat 1)) 0 then
      (fn_M_asks a1 h1).bind fun q8 =>
      bif px_cmp .ne q8.1 0 then
        bif px_cmp .ne a2 0 then
          (fn_M_someBits q8.2).bind fun q14 =>
          some (q14, q8.2)
        else
          (fn_M_sureBits q8.2).bind fun q17 =>
          some (q17, q8.2)
      else
        some ((Int8.ofInt (-3)).toInt32, q8.2)
    else
      some ((Int32.ofInt (-1)), h1)
theorem fx_M_sure {a1 : Int32} {a2 : Int32} {hp : px_H} {res : Int32 × px_H} (hS : oS hp) (h : fn_M_sure a1 a2 hp = some res) : px_C nm_T nm_P mi_M_sure [.ref 69, .int a1, .int a2] hp (some (.int res.1)) res.2 ∧ oS res.2 := by
  unfold fn_M_sure at h
  refine py_C (M := mm_M_sure) rfl (Nat.le_of_ble_eq_true rfl) ?_
  show px_Y mm_M_sure 0 [(0, .ref 69), (1, .int a1), (2, .int a2)] [] hp _ _
  refine py_its (pc := 0) (pc1 := 2) (lv1 := [(0, .ref 69), (1, .int a1), (2, .int a2)]) (st1 := [.int (Int32.ofInt 0), .ref 69]) 2 (fun _ _ _ _ => rfl) ?_
  have h := sb_e h
  refine py_pI (pc := 2) (len := 3) (cs := [69]) rfl rfl rfl List.mem_cons_self hS rfl rfl rfl rfl ?_
  have hS2 : oS (wF hp 69 0 (.int (Int32.ofInt 0))) := oS_wI (cs := [69]) (ci := 9) rfl List.mem_cons_self hS
  generalize (wF hp 69 0 (.int (Int32.ofInt 0))) = h1 at h hS2 ⊢
  refine py_its (pc := 5) (pc1 := 7) (lv1 := [(0, .ref 69), (1, .int a1), (2, .int a2)]) (st1 := [.int a1, .ref 69]) 2 (fun _ _ _ _ => rfl) ?_
  obtain ⟨q3, hq4, h⟩ := bd_e h
  have hC5 := (fx_M_isLeft hS2 hq4).1
  refine py_vi (pc := 7) (mi := mi_M_isLeft) (cs := [69]) (N := mm_M_isLeft) rfl rfl rfl rfl List.mem_cons_self hS2 rfl (Nat.le_of_ble_eq_true rfl) (Nat.le_of_ble_eq_true rfl) rfl rfl hC5 ?_
  show px_Y mm_M_sure 10 [(0, .ref 69), (1, .int a1), (2, .int a2)] [.int q3] h1 _ _
  cases hb6 : px_cmp .eq q3 0 with
  | true =>
    have h := cd_t hb6 h
    refine py_if (pc := 10) (len := 3) true rfl hb6 ?_
    refine py_its (pc := 23) (pc1 := 24) (lv1 := [(0, .ref 69), (1, .int a1), (2, .int a2)]) (st1 := [.int (Int32.ofInt (-1))]) 1 (fun _ _ _ _ => rfl) ?_
    have h := Option.some.inj h
    subst h
    exact py_ir (pc := 24) (len := 1) (ty := .int) rfl rfl rfl hS2
  | false =>
    have h := cd_f hb6 h
    refine py_if (pc := 10) (len := 3) false rfl hb6 ?_
    refine py_its (pc := 13) (pc1 := 17) (lv1 := [(0, .ref 69), (1, .int a1), (2, .int a2)]) (st1 := [.long (Int64.ofNat 1), .long (Int64.ofNat 0), .long a2.toInt64]) 4 (fun _ _ _ _ => rfl) ?_
    refine py_st (pc := 17) (mi := mi_M_in) (N := mm_M_in) rfl rfl rfl (Nat.le_of_ble_eq_true rfl) (Nat.le_of_ble_eq_true rfl) rfl rfl (sx_in_C a2.toInt64 (Int64.ofNat 0) (Int64.ofNat 1) h1) ?_
    show px_Y mm_M_sure 20 [(0, .ref 69), (1, .int a1), (2, .int a2)] [.int (sx_in a2.toInt64 (Int64.ofNat 0) (Int64.ofNat 1))] h1 _ _
    cases hb7 : px_cmp .ne (sx_in a2.toInt64 (Int64.ofNat 0) (Int64.ofNat 1)) 0 with
    | true =>
      have h := cd_t hb7 h
      refine py_if (pc := 20) (len := 3) true rfl hb7 ?_
      refine py_its (pc := 25) (pc1 := 27) (lv1 := [(0, .ref 69), (1, .int a1), (2, .int a2)]) (st1 := [.int a1, .ref 69]) 2 (fun _ _ _ _ => rfl) ?_
      obtain ⟨q8, hq9, h⟩ := bd_e h
      obtain ⟨hC10, hS11⟩ := fx_M_asks hS2 hq9
      refine py_vi (pc := 27) (mi := mi_M_asks) (cs := [69]) (N := mm_M_asks) rfl rfl rfl rfl List.mem_cons_self hS2 rfl (Nat.le_of_ble_eq_true rfl) (Nat.le_of_ble_eq_true rfl) rfl rfl hC10 ?_
      show px_Y mm_M_sure 30 [(0, .ref 69), (1, .int a1), (2, .int a2)] [.int q8.1] q8.2 _ _
      cases hb12 : px_cmp .ne q8.1 0 with
      | true =>
        have h := cd_t hb12 h
        refine py_if (pc := 30) (len := 3) true rfl hb12 ?_
        refine py_its (pc := 36) (pc1 := 37) (lv1 := [(0, .ref 69), (1, .int a1), (2, .int a2)]) (st1 := [.int a2]) 1 (fun _ _ _ _ => rfl) ?_
        cases hb13 : px_cmp .ne a2 0 with
        | true =>
          have h := cd_t hb13 h
          refine py_if (pc := 37) (len := 3) true rfl hb13 ?_
          refine py_its (pc := 47) (pc1 := 48) (lv1 := [(0, .ref 69), (1, .int a1), (2, .int a2)]) (st1 := [.ref 69]) 1 (fun _ _ _ _ => rfl) ?_
          obtain ⟨q14, hq15, h⟩ := bd_e h
          have hC16 := (fx_M_someBits hS11 hq15).1
          refine py_vi (pc := 48) (mi := mi_M_someBits) (cs := [69]) (N := mm_M_someBits) rfl rfl rfl rfl List.mem_cons_self hS11 rfl (Nat.le_of_ble_eq_true rfl) (Nat.le_of_ble_eq_true rfl) rfl rfl hC16 ?_
          show px_Y mm_M_sure 51 [(0, .ref 69), (1, .int a1), (2, .int a2)] [.int q14] q8.2 _ _
          have h := Option.some.inj h
          subst h
          exact py_ir (pc := 51) (len := 1) (ty := .int) rfl rfl rfl hS11
        | false =>
          have h := cd_f hb13 h
          refine py_if (pc := 37) (len := 3) false rfl hb13 ?_
          refine py_its (pc := 40) (pc1 := 41) (lv1 := [(0, .ref 69), (1, .int a1), (2, .int a2)]) (st1 := [.ref 69]) 1 (fun _ _ _ _ => rfl) ?_
          obtain ⟨q17, hq18, h⟩ := bd_e h
          have hC19 := (fx_M_sureBits hS11 hq18).1
          refine py_vi (pc := 41) (mi := mi_M_sureBits) (cs := [69]) (N := mm_M_sureBits) rfl rfl rfl rfl List.mem_cons_self hS11 rfl (Nat.le_of_ble_eq_true rfl) (Nat.le_of_ble_eq_true rfl) rfl rfl hC19 ?_
          show px_Y mm_M_sure 44 [(0, .ref 69), (1, .int a1), (2, .int a2)] [.int q17] q8.2 _ _
          refine py_its (pc := 44) (pc1 := 51) (lv1 := [(0, .ref 69), (1, .int a1), (2, .int a2)]) (st1 := [.int q17]) 1 (fun _ _ _ _ => rfl) ?_
          have h := Option.some.inj h
          subst h
          exact py_ir (pc := 51) (len := 1) (ty := .int) rfl rfl rfl hS11
      | false =>
        have h := cd_f hb12 h
        refine py_if (pc := 30) (len := 3) false rfl hb12 ?_
        refine py_its (pc := 33) (pc1 := 35) (lv1 := [(0, .ref 69), (1, .int a1), (2, .int a2)]) (st1 := [.int (Int8.ofInt (-3)).toInt32]) 1 (fun _ _ _ _ => rfl) ?_
        have h := Option.some.inj h
        subst h
        exact py_ir (pc := 35) (len := 1) (ty := .int) rfl rfl rfl hS11
    | false =>
      have h := cd_f hb7 h
      refine py_if (pc := 20) (len := 3) false rfl hb7 ?_
      refine py_its (pc := 23) (pc1 := 24) (lv1 := [(0, .ref 69), (1, .int a1), (2, .int a2)]) (st1 := [.int (Int32.ofInt (-1))]) 1 (fun _ _ _ _ => rfl) ?_
      have h := Option.some.inj h
      subst h
      exact py_ir (pc := 24) (len := 1) (ty := .int) rfl rfl rfl hS2
/-! M_sit -/
noncomputable def fb_M_sit_L42 (v2 : Int32) (rc : Int64 → Int32 → Int32 → px_H → Option (Int32 × px_H)) (v3 : Int64) (v5 : Int32) (v6 : Int32) (hp : px_H) : Option (Int32 × px_H) :=
  bif px_cmp .ge v6 (aI hp 96 (Int32.ofInt 2).toNatClampNeg) then
    sb (wF hp 69 1 (.int (Int32.ofInt 0))) fun h17 =>
    (fn_M_enters v3 h17).bind fun q19 =>
    some (v5, q19)
  else
    bif px_inR v6 3001 then
    bif px_cmp .ne (aI hp 98 v6.toNatClampNeg) v2 then
      rc v3 v5 (v6 + Int32.ofInt 1) hp
    else
      (fn_M_endPart v6 hp).bind fun q29 =>
      rc (v3 + q29) (Int32.ofInt 1) (v6 + Int32.ofInt 1) hp
    else none
noncomputable def fn_M_sit_L42 (v2 : Int32) : Nat → Int64 → Int32 → Int32 → px_H → Option (Int32 × px_H)
  | 0 => fun _ _ _ _ => none
  | n + 1 => fb_M_sit_L42 v2 (fn_M_sit_L42 v2 n)
theorem fl_M_sit_L42 {v2 : Int32}  : ∀ (n : Nat) (v3 : Int64) (v5 : Int32) (v6 : Int32) (hp : px_H) (lv : List (Nat × Value)) (res : Int32 × px_H), oS hp → lk lv [(0, .ref 69), (2, .int v2), (3, .long v3), (5, .int v5), (6, .int v6)] → fn_M_sit_L42 v2 n v3 v5 v6 hp = some res → px_Y mm_M_sit 42 lv [] hp (some (.int res.1)) res.2 := by
  intro n
  induction n with
  | zero =>
    intro v3 v5 v6 hp lv res hS hk h
    cases h
  | succ n ih =>
    intro v3 v5 v6 hp lv res hS hk h
    have h : fb_M_sit_L42 v2 (fn_M_sit_L42 v2 n) v3 v5 v6 hp = some res := h
    unfold fb_M_sit_L42 at h
    refine py_il (pc := 42) (len := 2) (j := 6) rfl hk rfl ?_
    refine py_aln (pc := 44) (len := 1) (j := 0) rfl hk rfl ?_
    refine py_g1 96 (pc := 45) (len := 3) (cs := [69]) rfl rfl rfl List.mem_cons_self hS ?_
    refine py_its (pc := 48) (pc1 := 49) (lv1 := lv) (st1 := [.int (Int32.ofInt 2), .ref 96, .int v6]) 1 (fun _ _ _ _ => rfl) ?_
    refine py_ai (pc := 49) (len := 1) (cs := [96]) (t := 53) (n := 3) rfl rfl rfl rfl List.mem_cons_self hS ?_
    cases hb16 : px_cmp .ge v6 (aI hp 96 (Int32.ofInt 2).toNatClampNeg) with
    | true =>
      have h := cd_t hb16 h
      refine py_ic (pc := 50) (len := 3) true rfl hb16 ?_
      refine py_aln (pc := 82) (len := 1) (j := 0) rfl hk rfl ?_
      refine py_its (pc := 83) (pc1 := 84) (lv1 := lv) (st1 := [.int (Int32.ofInt 0), .ref 69]) 1 (fun _ _ _ _ => rfl) ?_
      have h := sb_e h
      refine py_pI (pc := 84) (len := 3) (cs := [69]) rfl rfl rfl List.mem_cons_self hS rfl rfl rfl rfl ?_
      have hS18 : oS (wF hp 69 1 (.int (Int32.ofInt 0))) := oS_wI (cs := [69]) (ci := 9) rfl List.mem_cons_self hS
      generalize (wF hp 69 1 (.int (Int32.ofInt 0))) = h17 at h hS18 ⊢
      refine py_aln (pc := 87) (len := 1) (j := 0) rfl hk rfl ?_
      refine py_lln (pc := 88) (len := 1) (j := 3) rfl hk rfl ?_
      obtain ⟨q19, hq20, h⟩ := bd_e h
      obtain ⟨hC21, hS22⟩ := fx_M_enters hS18 hq20
      refine py_vi (pc := 89) (mi := mi_M_enters) (cs := [69]) (N := mm_M_enters) rfl rfl rfl rfl List.mem_cons_self hS18 rfl (Nat.le_of_ble_eq_true rfl) (Nat.le_of_ble_eq_true rfl) rfl rfl hC21 ?_
      show px_Y mm_M_sit 92 lv [] q19 _ _
      refine py_il (pc := 92) (len := 2) (j := 5) rfl hk rfl ?_
      have h := Option.some.inj h
      subst h
      exact py_ir (pc := 94) (len := 1) (ty := .int) rfl rfl rfl hS22
    | false =>
      have h := cd_f hb16 h
      refine py_ic (pc := 50) (len := 3) false rfl hb16 ?_
      refine py_aln (pc := 53) (len := 1) (j := 0) rfl hk rfl ?_
      refine py_g1 98 (pc := 54) (len := 3) (cs := [69]) rfl rfl rfl List.mem_cons_self hS ?_
      refine py_il (pc := 57) (len := 2) (j := 6) rfl hk rfl ?_
      obtain ⟨hi23, h⟩ := cd_n h
      refine py_ai (pc := 59) (len := 1) (cs := [98]) (t := 55) (n := 3001) rfl rfl rfl hi23 List.mem_cons_self hS ?_
      refine py_iln (pc := 60) (len := 1) (j := 2) rfl hk rfl ?_
      cases hb24 : px_cmp .ne (aI hp 98 v6.toNatClampNeg) v2 with
      | true =>
        have h := cd_t hb24 h
        refine py_ic (pc := 61) (len := 3) true rfl hb24 ?_
        refine py_inc (pc := 76) (len := 3) (j := 6) (n := 1) rfl rfl hk rfl (fun lv25 hk26 => ?_)
        have hk26 : lk lv25 [(6, .int (v6 + Int32.ofInt 1)), (0, .ref 69), (2, .int v2), (3, .long v3), (5, .int v5)] := hk26
        refine py_its (pc := 79) (pc1 := 42) (lv1 := lv25) (st1 := []) 1 (fun _ _ _ _ => rfl) ?_
        exact ih v3 v5 (v6 + Int32.ofInt 1) hp lv25 _ hS ⟨lk_find hk26 rfl, lk_find hk26 rfl, lk_find hk26 rfl, lk_find hk26 rfl, lk_find hk26 rfl, trivial⟩ h
      | false =>
        have h := cd_f hb24 h
        refine py_ic (pc := 61) (len := 3) false rfl hb24 ?_
        refine py_its (pc := 64) (pc1 := 65) (lv1 := lv) (st1 := [.int (Int32.ofInt 1)]) 1 (fun _ _ _ _ => rfl) ?_
        refine py_sti (pc := 65) (len := 2) (j := 5) rfl rfl hk (fun lv27 hk28 => ?_)
        have hk28 : lk lv27 [(5, .int (Int32.ofInt 1)), (0, .ref 69), (2, .int v2), (3, .long v3), (6, .int v6)] := hk28
        refine py_lln (pc := 67) (len := 1) (j := 3) rfl hk28 rfl ?_
        refine py_aln (pc := 68) (len := 1) (j := 0) rfl hk28 rfl ?_
        refine py_il (pc := 69) (len := 2) (j := 6) rfl hk28 rfl ?_
        obtain ⟨q29, hq30, h⟩ := bd_e h
        have hC31 := (fx_M_endPart hS hq30).1
        refine py_vi (pc := 71) (mi := mi_M_endPart) (cs := [69]) (N := mm_M_endPart) rfl rfl rfl rfl List.mem_cons_self hS rfl (Nat.le_of_ble_eq_true rfl) (Nat.le_of_ble_eq_true rfl) rfl rfl hC31 ?_
        show px_Y mm_M_sit 74 lv27 [.long q29, .long v3] hp _ _
        refine py_its (pc := 74) (pc1 := 75) (lv1 := lv27) (st1 := [.long (v3 + q29)]) 1 (fun _ _ _ _ => rfl) ?_
        refine py_sln (pc := 75) (len := 1) (j := 3) rfl rfl hk28 (fun lv32 hk33 => ?_)
        have hk33 : lk lv32 [(3, .long (v3 + q29)), (5, .int (Int32.ofInt 1)), (0, .ref 69), (2, .int v2), (6, .int v6)] := hk33
        refine py_inc (pc := 76) (len := 3) (j := 6) (n := 1) rfl rfl hk33 rfl (fun lv34 hk35 => ?_)
        have hk35 : lk lv34 [(6, .int (v6 + Int32.ofInt 1)), (3, .long (v3 + q29)), (5, .int (Int32.ofInt 1)), (0, .ref 69), (2, .int v2)] := hk35
        refine py_its (pc := 79) (pc1 := 42) (lv1 := lv34) (st1 := []) 1 (fun _ _ _ _ => rfl) ?_
        exact ih (v3 + q29) (Int32.ofInt 1) (v6 + Int32.ofInt 1) hp lv34 _ hS ⟨lk_find hk35 rfl, lk_find hk35 rfl, lk_find hk35 rfl, lk_find hk35 rfl, lk_find hk35 rfl, trivial⟩ h
noncomputable def fn_M_sit (a1 : Int32) (a2 : Int32) (hp : px_H) : Option (Int32 × px_H) :=
  sb (wF hp 69 0 (.int (Int32.ofInt 0))) fun h1 =>
  (fn_M_isLeft a1 h1).bind fun q3 =>
  bif px_cmp .eq q3 0 then
    some ((Int32.ofInt (-1)), h1)
  else
    (fn_M_isSet a2 h1).bind fun q7 =>
    bif px_cmp .ne q7 0 then
      (fn_M_asks a1 h1).bind fun q11 =>
      bif px_cmp .ne q11.1 0 then
        fn_M_sit_L42 a2 fu (Int64.ofNat 0) (Int32.ofInt 0) (Int32.ofInt 0) q11.2
      else
        some ((Int8.ofInt (-3)).toInt32, q11.2)
    else
      some ((Int32.ofInt (-1)), h1)
theorem fx_M_sit {a1 : Int32} {a2 : Int32} {hp : px_H} {res : Int32 × px_H} (hS : oS hp) (h : fn_M_sit a1 a2 hp = some res) : px_C nm_T nm_P mi_M_sit [.ref 69, .int a1, .int a2] hp (some (.int res.1)) res.2 ∧ oS res.2 := by
  unfold fn_M_sit at h
  refine py_C (M := mm_M_sit) rfl (Nat.le_of_ble_eq_true rfl) ?_
  show px_Y mm_M_sit 0 [(0, .ref 69), (1, .int a1), (2, .int a2)] [] hp _ _
  refine py_its (pc := 0) (pc1 := 2) (lv1 := [(0, .ref 69), (1, .int a1), (2, .int a2)]) (st1 := [.int (Int32.ofInt 0), .ref 69]) 2 (fun _ _ _ _ => rfl) ?_
  have h := sb_e h
  refine py_pI (pc := 2) (len := 3) (cs := [69]) rfl rfl rfl List.mem_cons_self hS rfl rfl rfl rfl ?_
  have hS2 : oS (wF hp 69 0 (.int (Int32.ofInt 0))) := oS_wI (cs := [69]) (ci := 9) rfl List.mem_cons_self hS
  generalize (wF hp 69 0 (.int (Int32.ofInt 0))) = h1 at h hS2 ⊢
  refine py_its (pc := 5) (pc1 := 7) (lv1 := [(0, .ref 69), (1, .int a1), (2, .int a2)]) (st1 := [.int a1, .ref 69]) 2 (fun _ _ _ _ => rfl) ?_
  obtain ⟨q3, hq4, h⟩ := bd_e h
  have hC5 := (fx_M_isLeft hS2 hq4).1
  refine py_vi (pc := 7) (mi := mi_M_isLeft) (cs := [69]) (N := mm_M_isLeft) rfl rfl rfl rfl List.mem_cons_self hS2 rfl (Nat.le_of_ble_eq_true rfl) (Nat.le_of_ble_eq_true rfl) rfl rfl hC5 ?_
  show px_Y mm_M_sit 10 [(0, .ref 69), (1, .int a1), (2, .int a2)] [.int q3] h1 _ _
  cases hb6 : px_cmp .eq q3 0 with
  | true =>
    have h := cd_t hb6 h
    refine py_if (pc := 10) (len := 3) true rfl hb6 ?_
    refine py_its (pc := 21) (pc1 := 22) (lv1 := [(0, .ref 69), (1, .int a1), (2, .int a2)]) (st1 := [.int (Int32.ofInt (-1))]) 1 (fun _ _ _ _ => rfl) ?_
    have h := Option.some.inj h
    subst h
    exact py_ir (pc := 22) (len := 1) (ty := .int) rfl rfl rfl hS2
  | false =>
    have h := cd_f hb6 h
    refine py_if (pc := 10) (len := 3) false rfl hb6 ?_
    refine py_its (pc := 13) (pc1 := 15) (lv1 := [(0, .ref 69), (1, .int a1), (2, .int a2)]) (st1 := [.int a2, .ref 69]) 2 (fun _ _ _ _ => rfl) ?_
    obtain ⟨q7, hq8, h⟩ := bd_e h
    have hC9 := (fx_M_isSet hS2 hq8).1
    refine py_vi (pc := 15) (mi := mi_M_isSet) (cs := [69]) (N := mm_M_isSet) rfl rfl rfl rfl List.mem_cons_self hS2 rfl (Nat.le_of_ble_eq_true rfl) (Nat.le_of_ble_eq_true rfl) rfl rfl hC9 ?_
    show px_Y mm_M_sit 18 [(0, .ref 69), (1, .int a1), (2, .int a2)] [.int q7] h1 _ _
    cases hb10 : px_cmp .ne q7 0 with
    | true =>
      have h := cd_t hb10 h
      refine py_if (pc := 18) (len := 3) true rfl hb10 ?_
      refine py_its (pc := 23) (pc1 := 25) (lv1 := [(0, .ref 69), (1, .int a1), (2, .int a2)]) (st1 := [.int a1, .ref 69]) 2 (fun _ _ _ _ => rfl) ?_
      obtain ⟨q11, hq12, h⟩ := bd_e h
      obtain ⟨hC13, hS14⟩ := fx_M_asks hS2 hq12
      refine py_vi (pc := 25) (mi := mi_M_asks) (cs := [69]) (N := mm_M_asks) rfl rfl rfl rfl List.mem_cons_self hS2 rfl (Nat.le_of_ble_eq_true rfl) (Nat.le_of_ble_eq_true rfl) rfl rfl hC13 ?_
      show px_Y mm_M_sit 28 [(0, .ref 69), (1, .int a1), (2, .int a2)] [.int q11.1] q11.2 _ _
      cases hb15 : px_cmp .ne q11.1 0 with
      | true =>
        have h := cd_t hb15 h
        refine py_if (pc := 28) (len := 3) true rfl hb15 ?_
        refine py_its (pc := 34) (pc1 := 42) (lv1 := [(6, .int (Int32.ofInt 0)), (5, .int (Int32.ofInt 0)), (3, .long (Int64.ofNat 0)), (0, .ref 69), (1, .int a1), (2, .int a2)]) (st1 := []) 6 (fun _ _ _ _ => rfl) ?_
        exact fl_M_sit_L42 fu (Int64.ofNat 0) (Int32.ofInt 0) (Int32.ofInt 0) q11.2 [(6, .int (Int32.ofInt 0)), (5, .int (Int32.ofInt 0)), (3, .long (Int64.ofNat 0)), (0, .ref 69), (1, .int a1), (2, .int a2)] _ hS14 ⟨rfl, rfl, rfl, rfl, rfl, trivial⟩ h
      | false =>
        have h := cd_f hb15 h
        refine py_if (pc := 28) (len := 3) false rfl hb15 ?_
        refine py_its (pc := 31) (pc1 := 33) (lv1 := [(0, .ref 69), (1, .int a1), (2, .int a2)]) (st1 := [.int (Int8.ofInt (-3)).toInt32]) 1 (fun _ _ _ _ => rfl) ?_
        have h := Option.some.inj h
        subst h
        exact py_ir (pc := 33) (len := 1) (ty := .int) rfl rfl rfl hS14
    | false =>
      have h := cd_f hb10 h
      refine py_if (pc := 18) (len := 3) false rfl hb10 ?_
      refine py_its (pc := 21) (pc1 := 22) (lv1 := [(0, .ref 69), (1, .int a1), (2, .int a2)]) (st1 := [.int (Int32.ofInt (-1))]) 1 (fun _ _ _ _ => rfl) ?_
      have h := Option.some.inj h
      subst h
      exact py_ir (pc := 22) (len := 1) (ty := .int) rfl rfl rfl hS2
/-! M_known -/
noncomputable def fb_M_known_L23  (rc : Int32 → px_H → Option (Int32 × px_H)) (v1 : Int32) (hp : px_H) : Option (Int32 × px_H) :=
  bif px_cmp .ge v1 (gI hp 69 11) then
    some ((Int8.ofInt (-2)).toInt32, hp)
  else
    (fn_M_asks v1 hp).bind fun q5 =>
    bif px_cmp .ne q5.1 0 then
      (fn_M_sureBits q5.2).bind fun q10 =>
      bif px_cmp .eq q10 0 then
        rc (v1 + Int32.ofInt 1) q5.2
      else
        sb (wF q5.2 69 1 (.int (Int32.ofInt 0))) fun h16 =>
        (fn_M_sureBits h16).bind fun q18 =>
        (fn_M_enters q18.toInt64 h16).bind fun q21 =>
        some (v1, q21)
    else
      some ((Int8.ofInt (-3)).toInt32, q5.2)
noncomputable def fn_M_known_L23  : Nat → Int32 → px_H → Option (Int32 × px_H)
  | 0 => fun _ _ => none
  | n + 1 => fb_M_known_L23  (fn_M_known_L23  n)
theorem fl_M_known_L23   : ∀ (n : Nat) (v1 : Int32) (hp : px_H) (lv : List (Nat × Value)) (res : Int32 × px_H), oS hp → lk lv [(0, .ref 69), (1, .int v1)] → fn_M_known_L23  n v1 hp = some res → px_Y mm_M_known 23 lv [] hp (some (.int res.1)) res.2 := by
  intro n
  induction n with
  | zero =>
    intro v1 hp lv res hS hk h
    cases h
  | succ n ih =>
    intro v1 hp lv res hS hk h
    have h : fb_M_known_L23  (fn_M_known_L23  n) v1 hp = some res := h
    unfold fb_M_known_L23 at h
    refine py_iln (pc := 23) (len := 1) (j := 1) rfl hk rfl ?_
    refine py_aln (pc := 24) (len := 1) (j := 0) rfl hk rfl ?_
    refine py_gI (pc := 25) (len := 3) (cs := [69]) rfl rfl rfl List.mem_cons_self hS ?_
    cases hb4 : px_cmp .ge v1 (gI hp 69 11) with
    | true =>
      have h := cd_t hb4 h
      refine py_ic (pc := 28) (len := 3) true rfl hb4 ?_
      refine py_its (pc := 71) (pc1 := 73) (lv1 := lv) (st1 := [.int (Int8.ofInt (-2)).toInt32]) 1 (fun _ _ _ _ => rfl) ?_
      have h := Option.some.inj h
      subst h
      exact py_ir (pc := 73) (len := 1) (ty := .int) rfl rfl rfl hS
    | false =>
      have h := cd_f hb4 h
      refine py_ic (pc := 28) (len := 3) false rfl hb4 ?_
      refine py_aln (pc := 31) (len := 1) (j := 0) rfl hk rfl ?_
      refine py_iln (pc := 32) (len := 1) (j := 1) rfl hk rfl ?_
      obtain ⟨q5, hq6, h⟩ := bd_e h
      obtain ⟨hC7, hS8⟩ := fx_M_asks hS hq6
      refine py_vi (pc := 33) (mi := mi_M_asks) (cs := [69]) (N := mm_M_asks) rfl rfl rfl rfl List.mem_cons_self hS rfl (Nat.le_of_ble_eq_true rfl) (Nat.le_of_ble_eq_true rfl) rfl rfl hC7 ?_
      show px_Y mm_M_known 36 lv [.int q5.1] q5.2 _ _
      cases hb9 : px_cmp .ne q5.1 0 with
      | true =>
        have h := cd_t hb9 h
        refine py_if (pc := 36) (len := 3) true rfl hb9 ?_
        refine py_aln (pc := 42) (len := 1) (j := 0) rfl hk rfl ?_
        obtain ⟨q10, hq11, h⟩ := bd_e h
        have hC12 := (fx_M_sureBits hS8 hq11).1
        refine py_vi (pc := 43) (mi := mi_M_sureBits) (cs := [69]) (N := mm_M_sureBits) rfl rfl rfl rfl List.mem_cons_self hS8 rfl (Nat.le_of_ble_eq_true rfl) (Nat.le_of_ble_eq_true rfl) rfl rfl hC12 ?_
        show px_Y mm_M_known 46 lv [.int q10] q5.2 _ _
        cases hb13 : px_cmp .eq q10 0 with
        | true =>
          have h := cd_t hb13 h
          refine py_if (pc := 46) (len := 3) true rfl hb13 ?_
          refine py_inc (pc := 65) (len := 3) (j := 1) (n := 1) rfl rfl hk rfl (fun lv14 hk15 => ?_)
          have hk15 : lk lv14 [(1, .int (v1 + Int32.ofInt 1)), (0, .ref 69)] := hk15
          refine py_its (pc := 68) (pc1 := 23) (lv1 := lv14) (st1 := []) 1 (fun _ _ _ _ => rfl) ?_
          exact ih (v1 + Int32.ofInt 1) q5.2 lv14 _ hS8 ⟨lk_find hk15 rfl, lk_find hk15 rfl, trivial⟩ h
        | false =>
          have h := cd_f hb13 h
          refine py_if (pc := 46) (len := 3) false rfl hb13 ?_
          refine py_aln (pc := 49) (len := 1) (j := 0) rfl hk rfl ?_
          refine py_its (pc := 50) (pc1 := 51) (lv1 := lv) (st1 := [.int (Int32.ofInt 0), .ref 69]) 1 (fun _ _ _ _ => rfl) ?_
          have h := sb_e h
          refine py_pI (pc := 51) (len := 3) (cs := [69]) rfl rfl rfl List.mem_cons_self hS8 rfl rfl rfl rfl ?_
          have hS17 : oS (wF q5.2 69 1 (.int (Int32.ofInt 0))) := oS_wI (cs := [69]) (ci := 9) rfl List.mem_cons_self hS8
          generalize (wF q5.2 69 1 (.int (Int32.ofInt 0))) = h16 at h hS17 ⊢
          refine py_aln (pc := 54) (len := 1) (j := 0) rfl hk rfl ?_
          refine py_aln (pc := 55) (len := 1) (j := 0) rfl hk rfl ?_
          obtain ⟨q18, hq19, h⟩ := bd_e h
          have hC20 := (fx_M_sureBits hS17 hq19).1
          refine py_vi (pc := 56) (mi := mi_M_sureBits) (cs := [69]) (N := mm_M_sureBits) rfl rfl rfl rfl List.mem_cons_self hS17 rfl (Nat.le_of_ble_eq_true rfl) (Nat.le_of_ble_eq_true rfl) rfl rfl hC20 ?_
          show px_Y mm_M_known 59 lv [.int q18, .ref 69] h16 _ _
          refine py_its (pc := 59) (pc1 := 60) (lv1 := lv) (st1 := [.long q18.toInt64, .ref 69]) 1 (fun _ _ _ _ => rfl) ?_
          obtain ⟨q21, hq22, h⟩ := bd_e h
          obtain ⟨hC23, hS24⟩ := fx_M_enters hS17 hq22
          refine py_vi (pc := 60) (mi := mi_M_enters) (cs := [69]) (N := mm_M_enters) rfl rfl rfl rfl List.mem_cons_self hS17 rfl (Nat.le_of_ble_eq_true rfl) (Nat.le_of_ble_eq_true rfl) rfl rfl hC23 ?_
          show px_Y mm_M_known 63 lv [] q21 _ _
          refine py_iln (pc := 63) (len := 1) (j := 1) rfl hk rfl ?_
          have h := Option.some.inj h
          subst h
          exact py_ir (pc := 64) (len := 1) (ty := .int) rfl rfl rfl hS24
      | false =>
        have h := cd_f hb9 h
        refine py_if (pc := 36) (len := 3) false rfl hb9 ?_
        refine py_its (pc := 39) (pc1 := 41) (lv1 := lv) (st1 := [.int (Int8.ofInt (-3)).toInt32]) 1 (fun _ _ _ _ => rfl) ?_
        have h := Option.some.inj h
        subst h
        exact py_ir (pc := 41) (len := 1) (ty := .int) rfl rfl rfl hS8
noncomputable def fn_M_known  (hp : px_H) : Option (Int32 × px_H) :=
  sb (wF hp 69 0 (.int (Int32.ofInt 0))) fun h1 =>
  bif px_cmp .lt (gI h1 69 31) (gI h1 69 11) then
    fn_M_known_L23 fu (gI h1 69 31) h1
  else
    some ((Int32.ofInt (-1)), h1)
theorem fx_M_known  {hp : px_H} {res : Int32 × px_H} (hS : oS hp) (h : fn_M_known hp = some res) : px_C nm_T nm_P mi_M_known [.ref 69] hp (some (.int res.1)) res.2 ∧ oS res.2 := by
  unfold fn_M_known at h
  refine py_C (M := mm_M_known) rfl (Nat.le_of_ble_eq_true rfl) ?_
  show px_Y mm_M_known 0 [(0, .ref 69)] [] hp _ _
  refine py_its (pc := 0) (pc1 := 2) (lv1 := [(0, .ref 69)]) (st1 := [.int (Int32.ofInt 0), .ref 69]) 2 (fun _ _ _ _ => rfl) ?_
  have h := sb_e h
  refine py_pI (pc := 2) (len := 3) (cs := [69]) rfl rfl rfl List.mem_cons_self hS rfl rfl rfl rfl ?_
  have hS2 : oS (wF hp 69 0 (.int (Int32.ofInt 0))) := oS_wI (cs := [69]) (ci := 9) rfl List.mem_cons_self hS
  generalize (wF hp 69 0 (.int (Int32.ofInt 0))) = h1 at h hS2 ⊢
  refine py_its (pc := 5) (pc1 := 6) (lv1 := [(0, .ref 69)]) (st1 := [.ref 69]) 1 (fun _ _ _ _ => rfl) ?_
  refine py_gI (pc := 6) (len := 3) (cs := [69]) rfl rfl rfl List.mem_cons_self hS2 ?_
  refine py_its (pc := 9) (pc1 := 10) (lv1 := [(0, .ref 69)]) (st1 := [.ref 69, .int (gI h1 69 31)]) 1 (fun _ _ _ _ => rfl) ?_
  refine py_gI (pc := 10) (len := 3) (cs := [69]) rfl rfl rfl List.mem_cons_self hS2 ?_
  cases hb3 : px_cmp .lt (gI h1 69 31) (gI h1 69 11) with
  | true =>
    have h := cd_t hb3 h
    refine py_ic (pc := 13) (len := 3) true rfl hb3 ?_
    refine py_its (pc := 18) (pc1 := 19) (lv1 := [(0, .ref 69)]) (st1 := [.ref 69]) 1 (fun _ _ _ _ => rfl) ?_
    refine py_gI (pc := 19) (len := 3) (cs := [69]) rfl rfl rfl List.mem_cons_self hS2 ?_
    refine py_its (pc := 22) (pc1 := 23) (lv1 := [(1, .int (gI h1 69 31)), (0, .ref 69)]) (st1 := []) 1 (fun _ _ _ _ => rfl) ?_
    exact fl_M_known_L23 fu (gI h1 69 31) h1 [(1, .int (gI h1 69 31)), (0, .ref 69)] _ hS2 ⟨rfl, rfl, trivial⟩ h
  | false =>
    have h := cd_f hb3 h
    refine py_ic (pc := 13) (len := 3) false rfl hb3 ?_
    refine py_its (pc := 16) (pc1 := 17) (lv1 := [(0, .ref 69)]) (st1 := [.int (Int32.ofInt (-1))]) 1 (fun _ _ _ _ => rfl) ?_
    have h := Option.some.inj h
    subst h
    exact py_ir (pc := 17) (len := 1) (ty := .int) rfl rfl rfl hS2
/-! M_isPacking -/
noncomputable def fn_M_isPacking (a1 : Int32) (a2 : Int32) (a3 : Int32) (hp : px_H) : Option (Int32) :=
  (fn_M_isBag a1 hp).bind fun q1 =>
  bif px_cmp .eq q1 0 then
    some (Int32.ofInt 0)
  else
    (fn_M_isSet a2 hp).bind fun q5 =>
    bif px_cmp .eq q5 0 then
      some (Int32.ofInt 0)
    else
      bif px_cmp .gt (nm_bc a2) (Int8.ofInt 6).toInt32 then
        some (Int32.ofInt 0)
      else
        bif px_cmp .eq (sx_in a3.toInt64 (Int64.ofNat 0) ((gI hp 69 11) - (Int32.ofInt 1)).toInt64) 0 then
          some (Int32.ofInt 0)
        else
          some (Int32.ofInt 1)
theorem fx_M_isPacking {a1 : Int32} {a2 : Int32} {a3 : Int32} {hp : px_H} {res : Int32} (hS : oS hp) (h : fn_M_isPacking a1 a2 a3 hp = some res) : px_C nm_T nm_P mi_M_isPacking [.ref 69, .int a1, .int a2, .int a3] hp (some (.int res)) hp ∧ oS hp := by
  unfold fn_M_isPacking at h
  refine py_C (M := mm_M_isPacking) rfl (Nat.le_of_ble_eq_true rfl) ?_
  show px_Y mm_M_isPacking 0 [(0, .ref 69), (1, .int a1), (2, .int a2), (3, .int a3)] [] hp _ _
  refine py_its (pc := 0) (pc1 := 1) (lv1 := [(0, .ref 69), (1, .int a1), (2, .int a2), (3, .int a3)]) (st1 := [.int a1]) 1 (fun _ _ _ _ => rfl) ?_
  obtain ⟨q1, hq2, h⟩ := bd_e h
  have hC3 := (fx_M_isBag hS hq2).1
  refine py_st (pc := 1) (mi := mi_M_isBag) (N := mm_M_isBag) rfl rfl rfl (Nat.le_of_ble_eq_true rfl) (Nat.le_of_ble_eq_true rfl) rfl rfl hC3 ?_
  show px_Y mm_M_isPacking 4 [(0, .ref 69), (1, .int a1), (2, .int a2), (3, .int a3)] [.int q1] hp _ _
  cases hb4 : px_cmp .eq q1 0 with
  | true =>
    have h := cd_t hb4 h
    refine py_if (pc := 4) (len := 3) true rfl hb4 ?_
    refine py_its (pc := 44) (pc1 := 45) (lv1 := [(0, .ref 69), (1, .int a1), (2, .int a2), (3, .int a3)]) (st1 := [.int (Int32.ofInt 0)]) 1 (fun _ _ _ _ => rfl) ?_
    have h := Option.some.inj h
    subst h
    exact py_ir (pc := 45) (len := 1) (ty := .boolean) rfl rfl (by decide) hS
  | false =>
    have h := cd_f hb4 h
    refine py_if (pc := 4) (len := 3) false rfl hb4 ?_
    refine py_its (pc := 7) (pc1 := 9) (lv1 := [(0, .ref 69), (1, .int a1), (2, .int a2), (3, .int a3)]) (st1 := [.int a2, .ref 69]) 2 (fun _ _ _ _ => rfl) ?_
    obtain ⟨q5, hq6, h⟩ := bd_e h
    have hC7 := (fx_M_isSet hS hq6).1
    refine py_vi (pc := 9) (mi := mi_M_isSet) (cs := [69]) (N := mm_M_isSet) rfl rfl rfl rfl List.mem_cons_self hS rfl (Nat.le_of_ble_eq_true rfl) (Nat.le_of_ble_eq_true rfl) rfl rfl hC7 ?_
    show px_Y mm_M_isPacking 12 [(0, .ref 69), (1, .int a1), (2, .int a2), (3, .int a3)] [.int q5] hp _ _
    cases hb8 : px_cmp .eq q5 0 with
    | true =>
      have h := cd_t hb8 h
      refine py_if (pc := 12) (len := 3) true rfl hb8 ?_
      refine py_its (pc := 44) (pc1 := 45) (lv1 := [(0, .ref 69), (1, .int a1), (2, .int a2), (3, .int a3)]) (st1 := [.int (Int32.ofInt 0)]) 1 (fun _ _ _ _ => rfl) ?_
      have h := Option.some.inj h
      subst h
      exact py_ir (pc := 45) (len := 1) (ty := .boolean) rfl rfl (by decide) hS
    | false =>
      have h := cd_f hb8 h
      refine py_if (pc := 12) (len := 3) false rfl hb8 ?_
      refine py_its (pc := 15) (pc1 := 16) (lv1 := [(0, .ref 69), (1, .int a1), (2, .int a2), (3, .int a3)]) (st1 := [.int a2]) 1 (fun _ _ _ _ => rfl) ?_
      refine py_st (pc := 16) (mi := mi_I_bitCount) (N := mm_I_bitCount) rfl rfl rfl (Nat.le_of_ble_eq_true rfl) (Nat.le_of_ble_eq_true rfl) rfl rfl (nm_bc_C a2 hp) ?_
      show px_Y mm_M_isPacking 19 [(0, .ref 69), (1, .int a1), (2, .int a2), (3, .int a3)] [.int (nm_bc a2)] hp _ _
      refine py_its (pc := 19) (pc1 := 21) (lv1 := [(0, .ref 69), (1, .int a1), (2, .int a2), (3, .int a3)]) (st1 := [.int (Int8.ofInt 6).toInt32, .int (nm_bc a2)]) 1 (fun _ _ _ _ => rfl) ?_
      cases hb9 : px_cmp .gt (nm_bc a2) (Int8.ofInt 6).toInt32 with
      | true =>
        have h := cd_t hb9 h
        refine py_ic (pc := 21) (len := 3) true rfl hb9 ?_
        refine py_its (pc := 44) (pc1 := 45) (lv1 := [(0, .ref 69), (1, .int a1), (2, .int a2), (3, .int a3)]) (st1 := [.int (Int32.ofInt 0)]) 1 (fun _ _ _ _ => rfl) ?_
        have h := Option.some.inj h
        subst h
        exact py_ir (pc := 45) (len := 1) (ty := .boolean) rfl rfl (by decide) hS
      | false =>
        have h := cd_f hb9 h
        refine py_ic (pc := 21) (len := 3) false rfl hb9 ?_
        refine py_its (pc := 24) (pc1 := 28) (lv1 := [(0, .ref 69), (1, .int a1), (2, .int a2), (3, .int a3)]) (st1 := [.ref 69, .long (Int64.ofNat 0), .long a3.toInt64]) 4 (fun _ _ _ _ => rfl) ?_
        refine py_gI (pc := 28) (len := 3) (cs := [69]) rfl rfl rfl List.mem_cons_self hS ?_
        refine py_its (pc := 31) (pc1 := 34) (lv1 := [(0, .ref 69), (1, .int a1), (2, .int a2), (3, .int a3)]) (st1 := [.long ((gI hp 69 11) - (Int32.ofInt 1)).toInt64, .long (Int64.ofNat 0), .long a3.toInt64]) 3 (fun _ _ _ _ => rfl) ?_
        refine py_st (pc := 34) (mi := mi_M_in) (N := mm_M_in) rfl rfl rfl (Nat.le_of_ble_eq_true rfl) (Nat.le_of_ble_eq_true rfl) rfl rfl (sx_in_C a3.toInt64 (Int64.ofNat 0) ((gI hp 69 11) - (Int32.ofInt 1)).toInt64 hp) ?_
        show px_Y mm_M_isPacking 37 [(0, .ref 69), (1, .int a1), (2, .int a2), (3, .int a3)] [.int (sx_in a3.toInt64 (Int64.ofNat 0) ((gI hp 69 11) - (Int32.ofInt 1)).toInt64)] hp _ _
        cases hb10 : px_cmp .eq (sx_in a3.toInt64 (Int64.ofNat 0) ((gI hp 69 11) - (Int32.ofInt 1)).toInt64) 0 with
        | true =>
          have h := cd_t hb10 h
          refine py_if (pc := 37) (len := 3) true rfl hb10 ?_
          refine py_its (pc := 44) (pc1 := 45) (lv1 := [(0, .ref 69), (1, .int a1), (2, .int a2), (3, .int a3)]) (st1 := [.int (Int32.ofInt 0)]) 1 (fun _ _ _ _ => rfl) ?_
          have h := Option.some.inj h
          subst h
          exact py_ir (pc := 45) (len := 1) (ty := .boolean) rfl rfl (by decide) hS
        | false =>
          have h := cd_f hb10 h
          refine py_if (pc := 37) (len := 3) false rfl hb10 ?_
          refine py_its (pc := 40) (pc1 := 45) (lv1 := [(0, .ref 69), (1, .int a1), (2, .int a2), (3, .int a3)]) (st1 := [.int (Int32.ofInt 1)]) 2 (fun _ _ _ _ => rfl) ?_
          have h := Option.some.inj h
          subst h
          exact py_ir (pc := 45) (len := 1) (ty := .boolean) rfl rfl (by decide) hS
/-! M_packing -/
noncomputable def fn_M_packing (a1 : Int32) (a2 : Int32) (a3 : Int32) (hp : px_H) : Option (Int32) :=
  bif px_inR a1 2 then
  some (((aI hp 76 a1.toNatClampNeg) &&& (a2 ^^^ (Int32.ofInt (-1)))) ||| a3)
  else none
theorem fx_M_packing {a1 : Int32} {a2 : Int32} {a3 : Int32} {hp : px_H} {res : Int32} (hS : oS hp) (h : fn_M_packing a1 a2 a3 hp = some res) : px_C nm_T nm_P mi_M_packing [.ref 69, .int a1, .int a2, .int a3] hp (some (.int res)) hp ∧ oS hp := by
  unfold fn_M_packing at h
  refine py_C (M := mm_M_packing) rfl (Nat.le_of_ble_eq_true rfl) ?_
  show px_Y mm_M_packing 0 [(0, .ref 69), (1, .int a1), (2, .int a2), (3, .int a3)] [] hp _ _
  refine py_its (pc := 0) (pc1 := 1) (lv1 := [(0, .ref 69), (1, .int a1), (2, .int a2), (3, .int a3)]) (st1 := [.ref 69]) 1 (fun _ _ _ _ => rfl) ?_
  refine py_g1 76 (pc := 1) (len := 3) (cs := [69]) rfl rfl rfl List.mem_cons_self hS ?_
  refine py_its (pc := 4) (pc1 := 5) (lv1 := [(0, .ref 69), (1, .int a1), (2, .int a2), (3, .int a3)]) (st1 := [.int a1, .ref 76]) 1 (fun _ _ _ _ => rfl) ?_
  obtain ⟨hi1, h⟩ := cd_n h
  refine py_ai (pc := 5) (len := 1) (cs := [76]) (t := 33) (n := 2) rfl rfl rfl hi1 List.mem_cons_self hS ?_
  refine py_its (pc := 6) (pc1 := 12) (lv1 := [(0, .ref 69), (1, .int a1), (2, .int a2), (3, .int a3)]) (st1 := [.int (((aI hp 76 a1.toNatClampNeg) &&& (a2 ^^^ (Int32.ofInt (-1)))) ||| a3)]) 6 (fun _ _ _ _ => rfl) ?_
  have h := Option.some.inj h
  subst h
  exact py_ir (pc := 12) (len := 1) (ty := .int) rfl rfl rfl hS
/-! M_tries -/
noncomputable def fn_M_tries (a1 : Int32) (a2 : Int32) (a3 : Int32) (hp : px_H) : Option (Int32 × px_H) :=
  (fn_M_remembers hp).bind fun q1 =>
  bif px_inR a1 2 then
  sb (wF q1 69 48 (.int (aI q1 76 a1.toNatClampNeg))) fun h6 =>
  bif px_inR a1 2 then
  sb (uI h6 76 a1.toNatClampNeg a2) fun h9 =>
  (fn_M_isAsBefore h9).bind fun q11 =>
  (fn_M_reaches a3 q11).bind fun q15 =>
  bif px_inR a1 2 then
  sb (uI q15.2 76 a1.toNatClampNeg (gI q15.2 69 48)) fun h20 =>
  (fn_M_comesBack h20).bind fun q22 =>
  bif px_cmp .eq q15.1 0 then
    bif px_zr .boolean q15.1 then
    some (q15.1, q22)
    else none
  else
    (fn_M_notes a3 q22).bind fun q28 =>
    bif px_zr .boolean q15.1 then
    some (q15.1, q28)
    else none
  else none
  else none
  else none
theorem fx_M_tries {a1 : Int32} {a2 : Int32} {a3 : Int32} {hp : px_H} {res : Int32 × px_H} (hS : oS hp) (h : fn_M_tries a1 a2 a3 hp = some res) : px_C nm_T nm_P mi_M_tries [.ref 69, .int a1, .int a2, .int a3] hp (some (.int res.1)) res.2 ∧ oS res.2 := by
  unfold fn_M_tries at h
  refine py_C (M := mm_M_tries) rfl (Nat.le_of_ble_eq_true rfl) ?_
  show px_Y mm_M_tries 0 [(0, .ref 69), (1, .int a1), (2, .int a2), (3, .int a3)] [] hp _ _
  refine py_its (pc := 0) (pc1 := 1) (lv1 := [(0, .ref 69), (1, .int a1), (2, .int a2), (3, .int a3)]) (st1 := [.ref 69]) 1 (fun _ _ _ _ => rfl) ?_
  obtain ⟨q1, hq2, h⟩ := bd_e h
  obtain ⟨hC3, hS4⟩ := fx_M_remembers hS hq2
  refine py_vi (pc := 1) (mi := mi_M_remembers) (cs := [69]) (N := mm_M_remembers) rfl rfl rfl rfl List.mem_cons_self hS rfl (Nat.le_of_ble_eq_true rfl) (Nat.le_of_ble_eq_true rfl) rfl rfl hC3 ?_
  show px_Y mm_M_tries 4 [(0, .ref 69), (1, .int a1), (2, .int a2), (3, .int a3)] [] q1 _ _
  refine py_its (pc := 4) (pc1 := 6) (lv1 := [(0, .ref 69), (1, .int a1), (2, .int a2), (3, .int a3)]) (st1 := [.ref 69, .ref 69]) 2 (fun _ _ _ _ => rfl) ?_
  refine py_g1 76 (pc := 6) (len := 3) (cs := [69]) rfl rfl rfl List.mem_cons_self hS4 ?_
  refine py_its (pc := 9) (pc1 := 10) (lv1 := [(0, .ref 69), (1, .int a1), (2, .int a2), (3, .int a3)]) (st1 := [.int a1, .ref 76, .ref 69]) 1 (fun _ _ _ _ => rfl) ?_
  obtain ⟨hi5, h⟩ := cd_n h
  refine py_ai (pc := 10) (len := 1) (cs := [76]) (t := 33) (n := 2) rfl rfl rfl hi5 List.mem_cons_self hS4 ?_
  have h := sb_e h
  refine py_pI (pc := 11) (len := 3) (cs := [69]) rfl rfl rfl List.mem_cons_self hS4 rfl rfl rfl rfl ?_
  have hS7 : oS (wF q1 69 48 (.int (aI q1 76 a1.toNatClampNeg))) := oS_wI (cs := [69]) (ci := 9) rfl List.mem_cons_self hS4
  generalize (wF q1 69 48 (.int (aI q1 76 a1.toNatClampNeg))) = h6 at h hS7 ⊢
  refine py_its (pc := 14) (pc1 := 15) (lv1 := [(0, .ref 69), (1, .int a1), (2, .int a2), (3, .int a3)]) (st1 := [.ref 69]) 1 (fun _ _ _ _ => rfl) ?_
  refine py_g1 76 (pc := 15) (len := 3) (cs := [69]) rfl rfl rfl List.mem_cons_self hS7 ?_
  refine py_its (pc := 18) (pc1 := 20) (lv1 := [(0, .ref 69), (1, .int a1), (2, .int a2), (3, .int a3)]) (st1 := [.int a2, .int a1, .ref 76]) 2 (fun _ _ _ _ => rfl) ?_
  obtain ⟨hi8, h⟩ := cd_n h
  have h := sb_e h
  refine py_si (pc := 20) (len := 1) (cs := [76]) (t := 33) (n := 2) rfl rfl rfl hi8 List.mem_cons_self hS7 ?_
  have hS10 : oS (uI h6 76 a1.toNatClampNeg a2) := oS_uI (cs := [76]) (t := 33) (n := 2) rfl List.mem_cons_self hS7
  generalize (uI h6 76 a1.toNatClampNeg a2) = h9 at h hS10 ⊢
  refine py_its (pc := 21) (pc1 := 22) (lv1 := [(0, .ref 69), (1, .int a1), (2, .int a2), (3, .int a3)]) (st1 := [.ref 69]) 1 (fun _ _ _ _ => rfl) ?_
  obtain ⟨q11, hq12, h⟩ := bd_e h
  obtain ⟨hC13, hS14⟩ := fx_M_isAsBefore hS10 hq12
  refine py_vi (pc := 22) (mi := mi_M_isAsBefore) (cs := [69]) (N := mm_M_isAsBefore) rfl rfl rfl rfl List.mem_cons_self hS10 rfl (Nat.le_of_ble_eq_true rfl) (Nat.le_of_ble_eq_true rfl) rfl rfl hC13 ?_
  show px_Y mm_M_tries 25 [(0, .ref 69), (1, .int a1), (2, .int a2), (3, .int a3)] [] q11 _ _
  refine py_its (pc := 25) (pc1 := 27) (lv1 := [(0, .ref 69), (1, .int a1), (2, .int a2), (3, .int a3)]) (st1 := [.int a3, .ref 69]) 2 (fun _ _ _ _ => rfl) ?_
  obtain ⟨q15, hq16, h⟩ := bd_e h
  obtain ⟨hC17, hS18⟩ := fx_M_reaches hS14 hq16
  refine py_vi (pc := 27) (mi := mi_M_reaches) (cs := [69]) (N := mm_M_reaches) rfl rfl rfl rfl List.mem_cons_self hS14 rfl (Nat.le_of_ble_eq_true rfl) (Nat.le_of_ble_eq_true rfl) rfl rfl hC17 ?_
  show px_Y mm_M_tries 30 [(0, .ref 69), (1, .int a1), (2, .int a2), (3, .int a3)] [.int q15.1] q15.2 _ _
  refine py_its (pc := 30) (pc1 := 33) (lv1 := [(4, .int q15.1), (0, .ref 69), (1, .int a1), (2, .int a2), (3, .int a3)]) (st1 := [.ref 69]) 2 (fun _ _ _ _ => rfl) ?_
  refine py_g1 76 (pc := 33) (len := 3) (cs := [69]) rfl rfl rfl List.mem_cons_self hS18 ?_
  refine py_its (pc := 36) (pc1 := 38) (lv1 := [(4, .int q15.1), (0, .ref 69), (1, .int a1), (2, .int a2), (3, .int a3)]) (st1 := [.ref 69, .int a1, .ref 76]) 2 (fun _ _ _ _ => rfl) ?_
  refine py_gI (pc := 38) (len := 3) (cs := [69]) rfl rfl rfl List.mem_cons_self hS18 ?_
  obtain ⟨hi19, h⟩ := cd_n h
  have h := sb_e h
  refine py_si (pc := 41) (len := 1) (cs := [76]) (t := 33) (n := 2) rfl rfl rfl hi19 List.mem_cons_self hS18 ?_
  have hS21 : oS (uI q15.2 76 a1.toNatClampNeg (gI q15.2 69 48)) := oS_uI (cs := [76]) (t := 33) (n := 2) rfl List.mem_cons_self hS18
  generalize (uI q15.2 76 a1.toNatClampNeg (gI q15.2 69 48)) = h20 at h hS21 ⊢
  refine py_its (pc := 42) (pc1 := 43) (lv1 := [(4, .int q15.1), (0, .ref 69), (1, .int a1), (2, .int a2), (3, .int a3)]) (st1 := [.ref 69]) 1 (fun _ _ _ _ => rfl) ?_
  obtain ⟨q22, hq23, h⟩ := bd_e h
  obtain ⟨hC24, hS25⟩ := fx_M_comesBack hS21 hq23
  refine py_vi (pc := 43) (mi := mi_M_comesBack) (cs := [69]) (N := mm_M_comesBack) rfl rfl rfl rfl List.mem_cons_self hS21 rfl (Nat.le_of_ble_eq_true rfl) (Nat.le_of_ble_eq_true rfl) rfl rfl hC24 ?_
  show px_Y mm_M_tries 46 [(4, .int q15.1), (0, .ref 69), (1, .int a1), (2, .int a2), (3, .int a3)] [] q22 _ _
  refine py_its (pc := 46) (pc1 := 48) (lv1 := [(4, .int q15.1), (0, .ref 69), (1, .int a1), (2, .int a2), (3, .int a3)]) (st1 := [.int q15.1]) 1 (fun _ _ _ _ => rfl) ?_
  cases hb26 : px_cmp .eq q15.1 0 with
  | true =>
    have h := cd_t hb26 h
    refine py_if (pc := 48) (len := 3) true rfl hb26 ?_
    refine py_its (pc := 56) (pc1 := 58) (lv1 := [(4, .int q15.1), (0, .ref 69), (1, .int a1), (2, .int a2), (3, .int a3)]) (st1 := [.int q15.1]) 1 (fun _ _ _ _ => rfl) ?_
    obtain ⟨hz27, h⟩ := cd_n h
    have h := Option.some.inj h
    subst h
    exact py_ir (pc := 58) (len := 1) (ty := .boolean) rfl rfl hz27 hS25
  | false =>
    have h := cd_f hb26 h
    refine py_if (pc := 48) (len := 3) false rfl hb26 ?_
    refine py_its (pc := 51) (pc1 := 53) (lv1 := [(4, .int q15.1), (0, .ref 69), (1, .int a1), (2, .int a2), (3, .int a3)]) (st1 := [.int a3, .ref 69]) 2 (fun _ _ _ _ => rfl) ?_
    obtain ⟨q28, hq29, h⟩ := bd_e h
    obtain ⟨hC30, hS31⟩ := fx_M_notes hS25 hq29
    refine py_vi (pc := 53) (mi := mi_M_notes) (cs := [69]) (N := mm_M_notes) rfl rfl rfl rfl List.mem_cons_self hS25 rfl (Nat.le_of_ble_eq_true rfl) (Nat.le_of_ble_eq_true rfl) rfl rfl hC30 ?_
    show px_Y mm_M_tries 56 [(4, .int q15.1), (0, .ref 69), (1, .int a1), (2, .int a2), (3, .int a3)] [] q28 _ _
    refine py_its (pc := 56) (pc1 := 58) (lv1 := [(4, .int q15.1), (0, .ref 69), (1, .int a1), (2, .int a2), (3, .int a3)]) (st1 := [.int q15.1]) 1 (fun _ _ _ _ => rfl) ?_
    obtain ⟨hz32, h⟩ := cd_n h
    have h := Option.some.inj h
    subst h
    exact py_ir (pc := 58) (len := 1) (ty := .boolean) rfl rfl hz32 hS31
/-! M_best -/
noncomputable def fb_M_best_L46 (v1 : Int32) (v2 : Int32) (v3 : Int32) (v4 : Int32) (v5 : Int32) (rc : Int32 → Int64 → Int32 → px_H → Option (Int32 × px_H)) (v6 : Int32) (v7 : Int64) (v9 : Int32) (hp : px_H) : Option (Int32 × px_H) :=
  bif px_cmp .gt v9 v2 then
    sb (wF hp 69 1 (.int (Int32.ofInt 0))) fun h13 =>
    (fn_M_enters v6.toInt64 h13).bind fun q15 =>
    (fn_M_enters v7 q15).bind fun q19 =>
    some ((Int32.ofInt 0), q19)
  else
    bif px_cmp .eq (v9 &&& (v2 ^^^ (Int32.ofInt (-1)))) 0 then
      (fn_M_packing v1 v2 v9 hp).bind fun q24 =>
      (fn_M_tries v1 q24 v4 hp).bind fun q29 =>
      bif px_cmp .ne q29.1 0 then
        (fn_M_anyOf ((Int32.ofInt 1) <<< (v3 &&& 31)) q29.2).bind fun q34 =>
        bif px_cmp .ne v5 0 then
          bif px_cmp .ge (lg_cmp q34 v7) 0 then
            bif px_cmp .ne (lg_cmp q34 v7) 0 then
              bif px_cmp .lt v6 0 then
                rc q24 q34 (v9 + Int32.ofInt 1) q29.2
              else
                rc v6 v7 (v9 + Int32.ofInt 1) q29.2
            else
              bif px_cmp .ge (nm_bc q24) (nm_bc v6) then
                bif px_cmp .lt v6 0 then
                  rc q24 q34 (v9 + Int32.ofInt 1) q29.2
                else
                  rc v6 v7 (v9 + Int32.ofInt 1) q29.2
              else
                bif px_cmp .lt v6 0 then
                  rc q24 q34 (v9 + Int32.ofInt 1) q29.2
                else
                  rc q24 q34 (v9 + Int32.ofInt 1) q29.2
          else
            bif px_cmp .ne (lg_cmp q34 v7) 0 then
              bif px_cmp .lt v6 0 then
                rc q24 q34 (v9 + Int32.ofInt 1) q29.2
              else
                rc q24 q34 (v9 + Int32.ofInt 1) q29.2
            else
              bif px_cmp .ge (nm_bc q24) (nm_bc v6) then
                bif px_cmp .lt v6 0 then
                  rc q24 q34 (v9 + Int32.ofInt 1) q29.2
                else
                  rc q24 q34 (v9 + Int32.ofInt 1) q29.2
              else
                bif px_cmp .lt v6 0 then
                  rc q24 q34 (v9 + Int32.ofInt 1) q29.2
                else
                  rc q24 q34 (v9 + Int32.ofInt 1) q29.2
        else
          bif px_cmp .le (lg_cmp q34 v7) 0 then
            bif px_cmp .ne (lg_cmp q34 v7) 0 then
              bif px_cmp .lt v6 0 then
                rc q24 q34 (v9 + Int32.ofInt 1) q29.2
              else
                rc v6 v7 (v9 + Int32.ofInt 1) q29.2
            else
              bif px_cmp .ge (nm_bc q24) (nm_bc v6) then
                bif px_cmp .lt v6 0 then
                  rc q24 q34 (v9 + Int32.ofInt 1) q29.2
                else
                  rc v6 v7 (v9 + Int32.ofInt 1) q29.2
              else
                bif px_cmp .lt v6 0 then
                  rc q24 q34 (v9 + Int32.ofInt 1) q29.2
                else
                  rc q24 q34 (v9 + Int32.ofInt 1) q29.2
          else
            bif px_cmp .ne (lg_cmp q34 v7) 0 then
              bif px_cmp .lt v6 0 then
                rc q24 q34 (v9 + Int32.ofInt 1) q29.2
              else
                rc q24 q34 (v9 + Int32.ofInt 1) q29.2
            else
              bif px_cmp .ge (nm_bc q24) (nm_bc v6) then
                bif px_cmp .lt v6 0 then
                  rc q24 q34 (v9 + Int32.ofInt 1) q29.2
                else
                  rc q24 q34 (v9 + Int32.ofInt 1) q29.2
              else
                bif px_cmp .lt v6 0 then
                  rc q24 q34 (v9 + Int32.ofInt 1) q29.2
                else
                  rc q24 q34 (v9 + Int32.ofInt 1) q29.2
      else
        some ((Int8.ofInt (-3)).toInt32, q29.2)
    else
      rc v6 v7 (v9 + Int32.ofInt 1) hp
noncomputable def fn_M_best_L46 (v1 : Int32) (v2 : Int32) (v3 : Int32) (v4 : Int32) (v5 : Int32) : Nat → Int32 → Int64 → Int32 → px_H → Option (Int32 × px_H)
  | 0 => fun _ _ _ _ => none
  | n + 1 => fb_M_best_L46 v1 v2 v3 v4 v5 (fn_M_best_L46 v1 v2 v3 v4 v5 n)
theorem fl_M_best_L46 {v1 : Int32} {v2 : Int32} {v3 : Int32} {v4 : Int32} {v5 : Int32}  : ∀ (n : Nat) (v6 : Int32) (v7 : Int64) (v9 : Int32) (hp : px_H) (lv : List (Nat × Value)) (res : Int32 × px_H), oS hp → lk lv [(0, .ref 69), (1, .int v1), (2, .int v2), (3, .int v3), (4, .int v4), (5, .int v5), (6, .int v6), (7, .long v7), (9, .int v9)] → fn_M_best_L46 v1 v2 v3 v4 v5 n v6 v7 v9 hp = some res → px_Y mm_M_best 46 lv [] hp (some (.int res.1)) res.2 := by
  intro n
  induction n with
  | zero =>
    intro v6 v7 v9 hp lv res hS hk h
    cases h
  | succ n ih =>
    intro v6 v7 v9 hp lv res hS hk h
    have h : fb_M_best_L46 v1 v2 v3 v4 v5 (fn_M_best_L46 v1 v2 v3 v4 v5 n) v6 v7 v9 hp = some res := h
    unfold fb_M_best_L46 at h
    refine py_il (pc := 46) (len := 2) (j := 9) rfl hk rfl ?_
    refine py_iln (pc := 48) (len := 1) (j := 2) rfl hk rfl ?_
    cases hb12 : px_cmp .gt v9 v2 with
    | true =>
      have h := cd_t hb12 h
      refine py_ic (pc := 49) (len := 3) true rfl hb12 ?_
      refine py_aln (pc := 191) (len := 1) (j := 0) rfl hk rfl ?_
      refine py_its (pc := 192) (pc1 := 193) (lv1 := lv) (st1 := [.int (Int32.ofInt 0), .ref 69]) 1 (fun _ _ _ _ => rfl) ?_
      have h := sb_e h
      refine py_pI (pc := 193) (len := 3) (cs := [69]) rfl rfl rfl List.mem_cons_self hS rfl rfl rfl rfl ?_
      have hS14 : oS (wF hp 69 1 (.int (Int32.ofInt 0))) := oS_wI (cs := [69]) (ci := 9) rfl List.mem_cons_self hS
      generalize (wF hp 69 1 (.int (Int32.ofInt 0))) = h13 at h hS14 ⊢
      refine py_aln (pc := 196) (len := 1) (j := 0) rfl hk rfl ?_
      refine py_il (pc := 197) (len := 2) (j := 6) rfl hk rfl ?_
      refine py_its (pc := 199) (pc1 := 200) (lv1 := lv) (st1 := [.long v6.toInt64, .ref 69]) 1 (fun _ _ _ _ => rfl) ?_
      obtain ⟨q15, hq16, h⟩ := bd_e h
      obtain ⟨hC17, hS18⟩ := fx_M_enters hS14 hq16
      refine py_vi (pc := 200) (mi := mi_M_enters) (cs := [69]) (N := mm_M_enters) rfl rfl rfl rfl List.mem_cons_self hS14 rfl (Nat.le_of_ble_eq_true rfl) (Nat.le_of_ble_eq_true rfl) rfl rfl hC17 ?_
      show px_Y mm_M_best 203 lv [] q15 _ _
      refine py_aln (pc := 203) (len := 1) (j := 0) rfl hk rfl ?_
      refine py_ll (pc := 204) (len := 2) (j := 7) rfl hk rfl ?_
      obtain ⟨q19, hq20, h⟩ := bd_e h
      obtain ⟨hC21, hS22⟩ := fx_M_enters hS18 hq20
      refine py_vi (pc := 206) (mi := mi_M_enters) (cs := [69]) (N := mm_M_enters) rfl rfl rfl rfl List.mem_cons_self hS18 rfl (Nat.le_of_ble_eq_true rfl) (Nat.le_of_ble_eq_true rfl) rfl rfl hC21 ?_
      show px_Y mm_M_best 209 lv [] q19 _ _
      refine py_its (pc := 209) (pc1 := 210) (lv1 := lv) (st1 := [.int (Int32.ofInt 0)]) 1 (fun _ _ _ _ => rfl) ?_
      have h := Option.some.inj h
      subst h
      exact py_ir (pc := 210) (len := 1) (ty := .int) rfl rfl rfl hS22
    | false =>
      have h := cd_f hb12 h
      refine py_ic (pc := 49) (len := 3) false rfl hb12 ?_
      refine py_il (pc := 52) (len := 2) (j := 9) rfl hk rfl ?_
      refine py_iln (pc := 54) (len := 1) (j := 2) rfl hk rfl ?_
      refine py_its (pc := 55) (pc1 := 58) (lv1 := lv) (st1 := [.int (v9 &&& (v2 ^^^ (Int32.ofInt (-1))))]) 3 (fun _ _ _ _ => rfl) ?_
      cases hb23 : px_cmp .eq (v9 &&& (v2 ^^^ (Int32.ofInt (-1)))) 0 with
      | true =>
        have h := cd_t hb23 h
        refine py_if (pc := 58) (len := 3) true rfl hb23 ?_
        refine py_aln (pc := 64) (len := 1) (j := 0) rfl hk rfl ?_
        refine py_iln (pc := 65) (len := 1) (j := 1) rfl hk rfl ?_
        refine py_iln (pc := 66) (len := 1) (j := 2) rfl hk rfl ?_
        refine py_il (pc := 67) (len := 2) (j := 9) rfl hk rfl ?_
        obtain ⟨q24, hq25, h⟩ := bd_e h
        have hC26 := (fx_M_packing hS hq25).1
        refine py_vi (pc := 69) (mi := mi_M_packing) (cs := [69]) (N := mm_M_packing) rfl rfl rfl rfl List.mem_cons_self hS rfl (Nat.le_of_ble_eq_true rfl) (Nat.le_of_ble_eq_true rfl) rfl rfl hC26 ?_
        show px_Y mm_M_best 72 lv [.int q24] hp _ _
        refine py_sti (pc := 72) (len := 2) (j := 10) rfl rfl hk (fun lv27 hk28 => ?_)
        have hk28 : lk lv27 [(10, .int q24), (0, .ref 69), (1, .int v1), (2, .int v2), (3, .int v3), (4, .int v4), (5, .int v5), (6, .int v6), (7, .long v7), (9, .int v9)] := hk28
        refine py_aln (pc := 74) (len := 1) (j := 0) rfl hk28 rfl ?_
        refine py_iln (pc := 75) (len := 1) (j := 1) rfl hk28 rfl ?_
        refine py_il (pc := 76) (len := 2) (j := 10) rfl hk28 rfl ?_
        refine py_il (pc := 78) (len := 2) (j := 4) rfl hk28 rfl ?_
        obtain ⟨q29, hq30, h⟩ := bd_e h
        obtain ⟨hC31, hS32⟩ := fx_M_tries hS hq30
        refine py_vi (pc := 80) (mi := mi_M_tries) (cs := [69]) (N := mm_M_tries) rfl rfl rfl rfl List.mem_cons_self hS rfl (Nat.le_of_ble_eq_true rfl) (Nat.le_of_ble_eq_true rfl) rfl rfl hC31 ?_
        show px_Y mm_M_best 83 lv27 [.int q29.1] q29.2 _ _
        cases hb33 : px_cmp .ne q29.1 0 with
        | true =>
          have h := cd_t hb33 h
          refine py_if (pc := 83) (len := 3) true rfl hb33 ?_
          refine py_aln (pc := 89) (len := 1) (j := 0) rfl hk28 rfl ?_
          refine py_its (pc := 90) (pc1 := 91) (lv1 := lv27) (st1 := [.int (Int32.ofInt 1), .ref 69]) 1 (fun _ _ _ _ => rfl) ?_
          refine py_iln (pc := 91) (len := 1) (j := 3) rfl hk28 rfl ?_
          refine py_its (pc := 92) (pc1 := 93) (lv1 := lv27) (st1 := [.int ((Int32.ofInt 1) <<< (v3 &&& 31)), .ref 69]) 1 (fun _ _ _ _ => rfl) ?_
          obtain ⟨q34, hq35, h⟩ := bd_e h
          have hC36 := (fx_M_anyOf hS32 hq35).1
          refine py_vi (pc := 93) (mi := mi_M_anyOf) (cs := [69]) (N := mm_M_anyOf) rfl rfl rfl rfl List.mem_cons_self hS32 rfl (Nat.le_of_ble_eq_true rfl) (Nat.le_of_ble_eq_true rfl) rfl rfl hC36 ?_
          show px_Y mm_M_best 96 lv27 [.long q34] q29.2 _ _
          refine py_stl (pc := 96) (len := 2) (j := 11) rfl rfl hk28 (fun lv37 hk38 => ?_)
          have hk38 : lk lv37 [(11, .long q34), (10, .int q24), (0, .ref 69), (1, .int v1), (2, .int v2), (3, .int v3), (4, .int v4), (5, .int v5), (6, .int v6), (7, .long v7), (9, .int v9)] := hk38
          refine py_il (pc := 98) (len := 2) (j := 5) rfl hk38 rfl ?_
          cases hb39 : px_cmp .ne v5 0 with
          | true =>
            have h := cd_t hb39 h
            refine py_if (pc := 100) (len := 3) true rfl hb39 ?_
            refine py_ll (pc := 119) (len := 2) (j := 11) rfl hk38 rfl ?_
            refine py_ll (pc := 121) (len := 2) (j := 7) rfl hk38 rfl ?_
            cases hb40 : px_cmp .ge (lg_cmp q34 v7) 0 with
            | true =>
              have h := cd_t hb40 h
              refine py_lc (pc := 123) (len := 1) true rfl rfl hb40 ?_
              refine py_its (pc := 131) (pc1 := 132) (lv1 := lv37) (st1 := [.int (Int32.ofInt 0)]) 1 (fun _ _ _ _ => rfl) ?_
              refine py_sti (pc := 132) (len := 2) (j := 13) rfl rfl hk38 (fun lv41 hk42 => ?_)
              have hk42 : lk lv41 [(13, .int (Int32.ofInt 0)), (11, .long q34), (10, .int q24), (0, .ref 69), (1, .int v1), (2, .int v2), (3, .int v3), (4, .int v4), (5, .int v5), (6, .int v6), (7, .long v7), (9, .int v9)] := hk42
              refine py_ll (pc := 134) (len := 2) (j := 11) rfl hk42 rfl ?_
              refine py_ll (pc := 136) (len := 2) (j := 7) rfl hk42 rfl ?_
              cases hb43 : px_cmp .ne (lg_cmp q34 v7) 0 with
              | true =>
                have h := cd_t hb43 h
                refine py_lc (pc := 138) (len := 1) true rfl rfl hb43 ?_
                refine py_its (pc := 159) (pc1 := 160) (lv1 := lv41) (st1 := [.int (Int32.ofInt 0)]) 1 (fun _ _ _ _ => rfl) ?_
                refine py_sti (pc := 160) (len := 2) (j := 14) rfl rfl hk42 (fun lv44 hk45 => ?_)
                have hk45 : lk lv44 [(14, .int (Int32.ofInt 0)), (13, .int (Int32.ofInt 0)), (11, .long q34), (10, .int q24), (0, .ref 69), (1, .int v1), (2, .int v2), (3, .int v3), (4, .int v4), (5, .int v5), (6, .int v6), (7, .long v7), (9, .int v9)] := hk45
                refine py_il (pc := 162) (len := 2) (j := 6) rfl hk45 rfl ?_
                cases hb46 : px_cmp .lt v6 0 with
                | true =>
                  have h := cd_t hb46 h
                  refine py_if (pc := 164) (len := 3) true rfl hb46 ?_
                  refine py_il (pc := 177) (len := 2) (j := 10) rfl hk45 rfl ?_
                  refine py_sti (pc := 179) (len := 2) (j := 6) rfl rfl hk45 (fun lv47 hk48 => ?_)
                  have hk48 : lk lv47 [(6, .int q24), (14, .int (Int32.ofInt 0)), (13, .int (Int32.ofInt 0)), (11, .long q34), (10, .int q24), (0, .ref 69), (1, .int v1), (2, .int v2), (3, .int v3), (4, .int v4), (5, .int v5), (7, .long v7), (9, .int v9)] := hk48
                  refine py_ll (pc := 181) (len := 2) (j := 11) rfl hk48 rfl ?_
                  refine py_stl (pc := 183) (len := 2) (j := 7) rfl rfl hk48 (fun lv49 hk50 => ?_)
                  have hk50 : lk lv49 [(7, .long q34), (6, .int q24), (14, .int (Int32.ofInt 0)), (13, .int (Int32.ofInt 0)), (11, .long q34), (10, .int q24), (0, .ref 69), (1, .int v1), (2, .int v2), (3, .int v3), (4, .int v4), (5, .int v5), (9, .int v9)] := hk50
                  refine py_inc (pc := 185) (len := 3) (j := 9) (n := 1) rfl rfl hk50 rfl (fun lv51 hk52 => ?_)
                  have hk52 : lk lv51 [(9, .int (v9 + Int32.ofInt 1)), (7, .long q34), (6, .int q24), (14, .int (Int32.ofInt 0)), (13, .int (Int32.ofInt 0)), (11, .long q34), (10, .int q24), (0, .ref 69), (1, .int v1), (2, .int v2), (3, .int v3), (4, .int v4), (5, .int v5)] := hk52
                  refine py_its (pc := 188) (pc1 := 46) (lv1 := lv51) (st1 := []) 1 (fun _ _ _ _ => rfl) ?_
                  exact ih q24 q34 (v9 + Int32.ofInt 1) q29.2 lv51 _ hS32 ⟨lk_find hk52 rfl, lk_find hk52 rfl, lk_find hk52 rfl, lk_find hk52 rfl, lk_find hk52 rfl, lk_find hk52 rfl, lk_find hk52 rfl, lk_find hk52 rfl, lk_find hk52 rfl, trivial⟩ h
                | false =>
                  have h := cd_f hb46 h
                  refine py_if (pc := 164) (len := 3) false rfl hb46 ?_
                  refine py_il (pc := 167) (len := 2) (j := 13) rfl hk45 rfl ?_
                  refine py_if (pc := 169) (len := 3) false rfl (by decide) ?_
                  refine py_il (pc := 172) (len := 2) (j := 14) rfl hk45 rfl ?_
                  refine py_if (pc := 174) (len := 3) true rfl (by decide) ?_
                  refine py_inc (pc := 185) (len := 3) (j := 9) (n := 1) rfl rfl hk45 rfl (fun lv53 hk54 => ?_)
                  have hk54 : lk lv53 [(9, .int (v9 + Int32.ofInt 1)), (14, .int (Int32.ofInt 0)), (13, .int (Int32.ofInt 0)), (11, .long q34), (10, .int q24), (0, .ref 69), (1, .int v1), (2, .int v2), (3, .int v3), (4, .int v4), (5, .int v5), (6, .int v6), (7, .long v7)] := hk54
                  refine py_its (pc := 188) (pc1 := 46) (lv1 := lv53) (st1 := []) 1 (fun _ _ _ _ => rfl) ?_
                  exact ih v6 v7 (v9 + Int32.ofInt 1) q29.2 lv53 _ hS32 ⟨lk_find hk54 rfl, lk_find hk54 rfl, lk_find hk54 rfl, lk_find hk54 rfl, lk_find hk54 rfl, lk_find hk54 rfl, lk_find hk54 rfl, lk_find hk54 rfl, lk_find hk54 rfl, trivial⟩ h
              | false =>
                have h := cd_f hb43 h
                refine py_lc (pc := 138) (len := 1) false rfl rfl hb43 ?_
                refine py_il (pc := 142) (len := 2) (j := 10) rfl hk42 rfl ?_
                refine py_st (pc := 144) (mi := mi_I_bitCount) (N := mm_I_bitCount) rfl rfl rfl (Nat.le_of_ble_eq_true rfl) (Nat.le_of_ble_eq_true rfl) rfl rfl (nm_bc_C q24 q29.2) ?_
                show px_Y mm_M_best 147 lv41 [.int (nm_bc q24)] q29.2 _ _
                refine py_il (pc := 147) (len := 2) (j := 6) rfl hk42 rfl ?_
                refine py_st (pc := 149) (mi := mi_I_bitCount) (N := mm_I_bitCount) rfl rfl rfl (Nat.le_of_ble_eq_true rfl) (Nat.le_of_ble_eq_true rfl) rfl rfl (nm_bc_C v6 q29.2) ?_
                show px_Y mm_M_best 152 lv41 [.int (nm_bc v6), .int (nm_bc q24)] q29.2 _ _
                cases hb55 : px_cmp .ge (nm_bc q24) (nm_bc v6) with
                | true =>
                  have h := cd_t hb55 h
                  refine py_ic (pc := 152) (len := 3) true rfl hb55 ?_
                  refine py_its (pc := 159) (pc1 := 160) (lv1 := lv41) (st1 := [.int (Int32.ofInt 0)]) 1 (fun _ _ _ _ => rfl) ?_
                  refine py_sti (pc := 160) (len := 2) (j := 14) rfl rfl hk42 (fun lv56 hk57 => ?_)
                  have hk57 : lk lv56 [(14, .int (Int32.ofInt 0)), (13, .int (Int32.ofInt 0)), (11, .long q34), (10, .int q24), (0, .ref 69), (1, .int v1), (2, .int v2), (3, .int v3), (4, .int v4), (5, .int v5), (6, .int v6), (7, .long v7), (9, .int v9)] := hk57
                  refine py_il (pc := 162) (len := 2) (j := 6) rfl hk57 rfl ?_
                  cases hb58 : px_cmp .lt v6 0 with
                  | true =>
                    have h := cd_t hb58 h
                    refine py_if (pc := 164) (len := 3) true rfl hb58 ?_
                    refine py_il (pc := 177) (len := 2) (j := 10) rfl hk57 rfl ?_
                    refine py_sti (pc := 179) (len := 2) (j := 6) rfl rfl hk57 (fun lv59 hk60 => ?_)
                    have hk60 : lk lv59 [(6, .int q24), (14, .int (Int32.ofInt 0)), (13, .int (Int32.ofInt 0)), (11, .long q34), (10, .int q24), (0, .ref 69), (1, .int v1), (2, .int v2), (3, .int v3), (4, .int v4), (5, .int v5), (7, .long v7), (9, .int v9)] := hk60
                    refine py_ll (pc := 181) (len := 2) (j := 11) rfl hk60 rfl ?_
                    refine py_stl (pc := 183) (len := 2) (j := 7) rfl rfl hk60 (fun lv61 hk62 => ?_)
                    have hk62 : lk lv61 [(7, .long q34), (6, .int q24), (14, .int (Int32.ofInt 0)), (13, .int (Int32.ofInt 0)), (11, .long q34), (10, .int q24), (0, .ref 69), (1, .int v1), (2, .int v2), (3, .int v3), (4, .int v4), (5, .int v5), (9, .int v9)] := hk62
                    refine py_inc (pc := 185) (len := 3) (j := 9) (n := 1) rfl rfl hk62 rfl (fun lv63 hk64 => ?_)
                    have hk64 : lk lv63 [(9, .int (v9 + Int32.ofInt 1)), (7, .long q34), (6, .int q24), (14, .int (Int32.ofInt 0)), (13, .int (Int32.ofInt 0)), (11, .long q34), (10, .int q24), (0, .ref 69), (1, .int v1), (2, .int v2), (3, .int v3), (4, .int v4), (5, .int v5)] := hk64
                    refine py_its (pc := 188) (pc1 := 46) (lv1 := lv63) (st1 := []) 1 (fun _ _ _ _ => rfl) ?_
                    exact ih q24 q34 (v9 + Int32.ofInt 1) q29.2 lv63 _ hS32 ⟨lk_find hk64 rfl, lk_find hk64 rfl, lk_find hk64 rfl, lk_find hk64 rfl, lk_find hk64 rfl, lk_find hk64 rfl, lk_find hk64 rfl, lk_find hk64 rfl, lk_find hk64 rfl, trivial⟩ h
                  | false =>
                    have h := cd_f hb58 h
                    refine py_if (pc := 164) (len := 3) false rfl hb58 ?_
                    refine py_il (pc := 167) (len := 2) (j := 13) rfl hk57 rfl ?_
                    refine py_if (pc := 169) (len := 3) false rfl (by decide) ?_
                    refine py_il (pc := 172) (len := 2) (j := 14) rfl hk57 rfl ?_
                    refine py_if (pc := 174) (len := 3) true rfl (by decide) ?_
                    refine py_inc (pc := 185) (len := 3) (j := 9) (n := 1) rfl rfl hk57 rfl (fun lv65 hk66 => ?_)
                    have hk66 : lk lv65 [(9, .int (v9 + Int32.ofInt 1)), (14, .int (Int32.ofInt 0)), (13, .int (Int32.ofInt 0)), (11, .long q34), (10, .int q24), (0, .ref 69), (1, .int v1), (2, .int v2), (3, .int v3), (4, .int v4), (5, .int v5), (6, .int v6), (7, .long v7)] := hk66
                    refine py_its (pc := 188) (pc1 := 46) (lv1 := lv65) (st1 := []) 1 (fun _ _ _ _ => rfl) ?_
                    exact ih v6 v7 (v9 + Int32.ofInt 1) q29.2 lv65 _ hS32 ⟨lk_find hk66 rfl, lk_find hk66 rfl, lk_find hk66 rfl, lk_find hk66 rfl, lk_find hk66 rfl, lk_find hk66 rfl, lk_find hk66 rfl, lk_find hk66 rfl, lk_find hk66 rfl, trivial⟩ h
                | false =>
                  have h := cd_f hb55 h
                  refine py_ic (pc := 152) (len := 3) false rfl hb55 ?_
                  refine py_its (pc := 155) (pc1 := 160) (lv1 := lv41) (st1 := [.int (Int32.ofInt 1)]) 2 (fun _ _ _ _ => rfl) ?_
                  refine py_sti (pc := 160) (len := 2) (j := 14) rfl rfl hk42 (fun lv67 hk68 => ?_)
                  have hk68 : lk lv67 [(14, .int (Int32.ofInt 1)), (13, .int (Int32.ofInt 0)), (11, .long q34), (10, .int q24), (0, .ref 69), (1, .int v1), (2, .int v2), (3, .int v3), (4, .int v4), (5, .int v5), (6, .int v6), (7, .long v7), (9, .int v9)] := hk68
                  refine py_il (pc := 162) (len := 2) (j := 6) rfl hk68 rfl ?_
                  cases hb69 : px_cmp .lt v6 0 with
                  | true =>
                    have h := cd_t hb69 h
                    refine py_if (pc := 164) (len := 3) true rfl hb69 ?_
                    refine py_il (pc := 177) (len := 2) (j := 10) rfl hk68 rfl ?_
                    refine py_sti (pc := 179) (len := 2) (j := 6) rfl rfl hk68 (fun lv70 hk71 => ?_)
                    have hk71 : lk lv70 [(6, .int q24), (14, .int (Int32.ofInt 1)), (13, .int (Int32.ofInt 0)), (11, .long q34), (10, .int q24), (0, .ref 69), (1, .int v1), (2, .int v2), (3, .int v3), (4, .int v4), (5, .int v5), (7, .long v7), (9, .int v9)] := hk71
                    refine py_ll (pc := 181) (len := 2) (j := 11) rfl hk71 rfl ?_
                    refine py_stl (pc := 183) (len := 2) (j := 7) rfl rfl hk71 (fun lv72 hk73 => ?_)
                    have hk73 : lk lv72 [(7, .long q34), (6, .int q24), (14, .int (Int32.ofInt 1)), (13, .int (Int32.ofInt 0)), (11, .long q34), (10, .int q24), (0, .ref 69), (1, .int v1), (2, .int v2), (3, .int v3), (4, .int v4), (5, .int v5), (9, .int v9)] := hk73
                    refine py_inc (pc := 185) (len := 3) (j := 9) (n := 1) rfl rfl hk73 rfl (fun lv74 hk75 => ?_)
                    have hk75 : lk lv74 [(9, .int (v9 + Int32.ofInt 1)), (7, .long q34), (6, .int q24), (14, .int (Int32.ofInt 1)), (13, .int (Int32.ofInt 0)), (11, .long q34), (10, .int q24), (0, .ref 69), (1, .int v1), (2, .int v2), (3, .int v3), (4, .int v4), (5, .int v5)] := hk75
                    refine py_its (pc := 188) (pc1 := 46) (lv1 := lv74) (st1 := []) 1 (fun _ _ _ _ => rfl) ?_
                    exact ih q24 q34 (v9 + Int32.ofInt 1) q29.2 lv74 _ hS32 ⟨lk_find hk75 rfl, lk_find hk75 rfl, lk_find hk75 rfl, lk_find hk75 rfl, lk_find hk75 rfl, lk_find hk75 rfl, lk_find hk75 rfl, lk_find hk75 rfl, lk_find hk75 rfl, trivial⟩ h
                  | false =>
                    have h := cd_f hb69 h
                    refine py_if (pc := 164) (len := 3) false rfl hb69 ?_
                    refine py_il (pc := 167) (len := 2) (j := 13) rfl hk68 rfl ?_
                    refine py_if (pc := 169) (len := 3) false rfl (by decide) ?_
                    refine py_il (pc := 172) (len := 2) (j := 14) rfl hk68 rfl ?_
                    refine py_if (pc := 174) (len := 3) false rfl (by decide) ?_
                    refine py_il (pc := 177) (len := 2) (j := 10) rfl hk68 rfl ?_
                    refine py_sti (pc := 179) (len := 2) (j := 6) rfl rfl hk68 (fun lv76 hk77 => ?_)
                    have hk77 : lk lv76 [(6, .int q24), (14, .int (Int32.ofInt 1)), (13, .int (Int32.ofInt 0)), (11, .long q34), (10, .int q24), (0, .ref 69), (1, .int v1), (2, .int v2), (3, .int v3), (4, .int v4), (5, .int v5), (7, .long v7), (9, .int v9)] := hk77
                    refine py_ll (pc := 181) (len := 2) (j := 11) rfl hk77 rfl ?_
                    refine py_stl (pc := 183) (len := 2) (j := 7) rfl rfl hk77 (fun lv78 hk79 => ?_)
                    have hk79 : lk lv78 [(7, .long q34), (6, .int q24), (14, .int (Int32.ofInt 1)), (13, .int (Int32.ofInt 0)), (11, .long q34), (10, .int q24), (0, .ref 69), (1, .int v1), (2, .int v2), (3, .int v3), (4, .int v4), (5, .int v5), (9, .int v9)] := hk79
                    refine py_inc (pc := 185) (len := 3) (j := 9) (n := 1) rfl rfl hk79 rfl (fun lv80 hk81 => ?_)
                    have hk81 : lk lv80 [(9, .int (v9 + Int32.ofInt 1)), (7, .long q34), (6, .int q24), (14, .int (Int32.ofInt 1)), (13, .int (Int32.ofInt 0)), (11, .long q34), (10, .int q24), (0, .ref 69), (1, .int v1), (2, .int v2), (3, .int v3), (4, .int v4), (5, .int v5)] := hk81
                    refine py_its (pc := 188) (pc1 := 46) (lv1 := lv80) (st1 := []) 1 (fun _ _ _ _ => rfl) ?_
                    exact ih q24 q34 (v9 + Int32.ofInt 1) q29.2 lv80 _ hS32 ⟨lk_find hk81 rfl, lk_find hk81 rfl, lk_find hk81 rfl, lk_find hk81 rfl, lk_find hk81 rfl, lk_find hk81 rfl, lk_find hk81 rfl, lk_find hk81 rfl, lk_find hk81 rfl, trivial⟩ h
            | false =>
              have h := cd_f hb40 h
              refine py_lc (pc := 123) (len := 1) false rfl rfl hb40 ?_
              refine py_its (pc := 127) (pc1 := 132) (lv1 := lv37) (st1 := [.int (Int32.ofInt 1)]) 2 (fun _ _ _ _ => rfl) ?_
              refine py_sti (pc := 132) (len := 2) (j := 13) rfl rfl hk38 (fun lv82 hk83 => ?_)
              have hk83 : lk lv82 [(13, .int (Int32.ofInt 1)), (11, .long q34), (10, .int q24), (0, .ref 69), (1, .int v1), (2, .int v2), (3, .int v3), (4, .int v4), (5, .int v5), (6, .int v6), (7, .long v7), (9, .int v9)] := hk83
              refine py_ll (pc := 134) (len := 2) (j := 11) rfl hk83 rfl ?_
              refine py_ll (pc := 136) (len := 2) (j := 7) rfl hk83 rfl ?_
              cases hb84 : px_cmp .ne (lg_cmp q34 v7) 0 with
              | true =>
                have h := cd_t hb84 h
                refine py_lc (pc := 138) (len := 1) true rfl rfl hb84 ?_
                refine py_its (pc := 159) (pc1 := 160) (lv1 := lv82) (st1 := [.int (Int32.ofInt 0)]) 1 (fun _ _ _ _ => rfl) ?_
                refine py_sti (pc := 160) (len := 2) (j := 14) rfl rfl hk83 (fun lv85 hk86 => ?_)
                have hk86 : lk lv85 [(14, .int (Int32.ofInt 0)), (13, .int (Int32.ofInt 1)), (11, .long q34), (10, .int q24), (0, .ref 69), (1, .int v1), (2, .int v2), (3, .int v3), (4, .int v4), (5, .int v5), (6, .int v6), (7, .long v7), (9, .int v9)] := hk86
                refine py_il (pc := 162) (len := 2) (j := 6) rfl hk86 rfl ?_
                cases hb87 : px_cmp .lt v6 0 with
                | true =>
                  have h := cd_t hb87 h
                  refine py_if (pc := 164) (len := 3) true rfl hb87 ?_
                  refine py_il (pc := 177) (len := 2) (j := 10) rfl hk86 rfl ?_
                  refine py_sti (pc := 179) (len := 2) (j := 6) rfl rfl hk86 (fun lv88 hk89 => ?_)
                  have hk89 : lk lv88 [(6, .int q24), (14, .int (Int32.ofInt 0)), (13, .int (Int32.ofInt 1)), (11, .long q34), (10, .int q24), (0, .ref 69), (1, .int v1), (2, .int v2), (3, .int v3), (4, .int v4), (5, .int v5), (7, .long v7), (9, .int v9)] := hk89
                  refine py_ll (pc := 181) (len := 2) (j := 11) rfl hk89 rfl ?_
                  refine py_stl (pc := 183) (len := 2) (j := 7) rfl rfl hk89 (fun lv90 hk91 => ?_)
                  have hk91 : lk lv90 [(7, .long q34), (6, .int q24), (14, .int (Int32.ofInt 0)), (13, .int (Int32.ofInt 1)), (11, .long q34), (10, .int q24), (0, .ref 69), (1, .int v1), (2, .int v2), (3, .int v3), (4, .int v4), (5, .int v5), (9, .int v9)] := hk91
                  refine py_inc (pc := 185) (len := 3) (j := 9) (n := 1) rfl rfl hk91 rfl (fun lv92 hk93 => ?_)
                  have hk93 : lk lv92 [(9, .int (v9 + Int32.ofInt 1)), (7, .long q34), (6, .int q24), (14, .int (Int32.ofInt 0)), (13, .int (Int32.ofInt 1)), (11, .long q34), (10, .int q24), (0, .ref 69), (1, .int v1), (2, .int v2), (3, .int v3), (4, .int v4), (5, .int v5)] := hk93
                  refine py_its (pc := 188) (pc1 := 46) (lv1 := lv92) (st1 := []) 1 (fun _ _ _ _ => rfl) ?_
                  exact ih q24 q34 (v9 + Int32.ofInt 1) q29.2 lv92 _ hS32 ⟨lk_find hk93 rfl, lk_find hk93 rfl, lk_find hk93 rfl, lk_find hk93 rfl, lk_find hk93 rfl, lk_find hk93 rfl, lk_find hk93 rfl, lk_find hk93 rfl, lk_find hk93 rfl, trivial⟩ h
                | false =>
                  have h := cd_f hb87 h
                  refine py_if (pc := 164) (len := 3) false rfl hb87 ?_
                  refine py_il (pc := 167) (len := 2) (j := 13) rfl hk86 rfl ?_
                  refine py_if (pc := 169) (len := 3) true rfl (by decide) ?_
                  refine py_il (pc := 177) (len := 2) (j := 10) rfl hk86 rfl ?_
                  refine py_sti (pc := 179) (len := 2) (j := 6) rfl rfl hk86 (fun lv94 hk95 => ?_)
                  have hk95 : lk lv94 [(6, .int q24), (14, .int (Int32.ofInt 0)), (13, .int (Int32.ofInt 1)), (11, .long q34), (10, .int q24), (0, .ref 69), (1, .int v1), (2, .int v2), (3, .int v3), (4, .int v4), (5, .int v5), (7, .long v7), (9, .int v9)] := hk95
                  refine py_ll (pc := 181) (len := 2) (j := 11) rfl hk95 rfl ?_
                  refine py_stl (pc := 183) (len := 2) (j := 7) rfl rfl hk95 (fun lv96 hk97 => ?_)
                  have hk97 : lk lv96 [(7, .long q34), (6, .int q24), (14, .int (Int32.ofInt 0)), (13, .int (Int32.ofInt 1)), (11, .long q34), (10, .int q24), (0, .ref 69), (1, .int v1), (2, .int v2), (3, .int v3), (4, .int v4), (5, .int v5), (9, .int v9)] := hk97
                  refine py_inc (pc := 185) (len := 3) (j := 9) (n := 1) rfl rfl hk97 rfl (fun lv98 hk99 => ?_)
                  have hk99 : lk lv98 [(9, .int (v9 + Int32.ofInt 1)), (7, .long q34), (6, .int q24), (14, .int (Int32.ofInt 0)), (13, .int (Int32.ofInt 1)), (11, .long q34), (10, .int q24), (0, .ref 69), (1, .int v1), (2, .int v2), (3, .int v3), (4, .int v4), (5, .int v5)] := hk99
                  refine py_its (pc := 188) (pc1 := 46) (lv1 := lv98) (st1 := []) 1 (fun _ _ _ _ => rfl) ?_
                  exact ih q24 q34 (v9 + Int32.ofInt 1) q29.2 lv98 _ hS32 ⟨lk_find hk99 rfl, lk_find hk99 rfl, lk_find hk99 rfl, lk_find hk99 rfl, lk_find hk99 rfl, lk_find hk99 rfl, lk_find hk99 rfl, lk_find hk99 rfl, lk_find hk99 rfl, trivial⟩ h
              | false =>
                have h := cd_f hb84 h
                refine py_lc (pc := 138) (len := 1) false rfl rfl hb84 ?_
                refine py_il (pc := 142) (len := 2) (j := 10) rfl hk83 rfl ?_
                refine py_st (pc := 144) (mi := mi_I_bitCount) (N := mm_I_bitCount) rfl rfl rfl (Nat.le_of_ble_eq_true rfl) (Nat.le_of_ble_eq_true rfl) rfl rfl (nm_bc_C q24 q29.2) ?_
                show px_Y mm_M_best 147 lv82 [.int (nm_bc q24)] q29.2 _ _
                refine py_il (pc := 147) (len := 2) (j := 6) rfl hk83 rfl ?_
                refine py_st (pc := 149) (mi := mi_I_bitCount) (N := mm_I_bitCount) rfl rfl rfl (Nat.le_of_ble_eq_true rfl) (Nat.le_of_ble_eq_true rfl) rfl rfl (nm_bc_C v6 q29.2) ?_
                show px_Y mm_M_best 152 lv82 [.int (nm_bc v6), .int (nm_bc q24)] q29.2 _ _
                cases hb100 : px_cmp .ge (nm_bc q24) (nm_bc v6) with
                | true =>
                  have h := cd_t hb100 h
                  refine py_ic (pc := 152) (len := 3) true rfl hb100 ?_
                  refine py_its (pc := 159) (pc1 := 160) (lv1 := lv82) (st1 := [.int (Int32.ofInt 0)]) 1 (fun _ _ _ _ => rfl) ?_
                  refine py_sti (pc := 160) (len := 2) (j := 14) rfl rfl hk83 (fun lv101 hk102 => ?_)
                  have hk102 : lk lv101 [(14, .int (Int32.ofInt 0)), (13, .int (Int32.ofInt 1)), (11, .long q34), (10, .int q24), (0, .ref 69), (1, .int v1), (2, .int v2), (3, .int v3), (4, .int v4), (5, .int v5), (6, .int v6), (7, .long v7), (9, .int v9)] := hk102
                  refine py_il (pc := 162) (len := 2) (j := 6) rfl hk102 rfl ?_
                  cases hb103 : px_cmp .lt v6 0 with
                  | true =>
                    have h := cd_t hb103 h
                    refine py_if (pc := 164) (len := 3) true rfl hb103 ?_
                    refine py_il (pc := 177) (len := 2) (j := 10) rfl hk102 rfl ?_
                    refine py_sti (pc := 179) (len := 2) (j := 6) rfl rfl hk102 (fun lv104 hk105 => ?_)
                    have hk105 : lk lv104 [(6, .int q24), (14, .int (Int32.ofInt 0)), (13, .int (Int32.ofInt 1)), (11, .long q34), (10, .int q24), (0, .ref 69), (1, .int v1), (2, .int v2), (3, .int v3), (4, .int v4), (5, .int v5), (7, .long v7), (9, .int v9)] := hk105
                    refine py_ll (pc := 181) (len := 2) (j := 11) rfl hk105 rfl ?_
                    refine py_stl (pc := 183) (len := 2) (j := 7) rfl rfl hk105 (fun lv106 hk107 => ?_)
                    have hk107 : lk lv106 [(7, .long q34), (6, .int q24), (14, .int (Int32.ofInt 0)), (13, .int (Int32.ofInt 1)), (11, .long q34), (10, .int q24), (0, .ref 69), (1, .int v1), (2, .int v2), (3, .int v3), (4, .int v4), (5, .int v5), (9, .int v9)] := hk107
                    refine py_inc (pc := 185) (len := 3) (j := 9) (n := 1) rfl rfl hk107 rfl (fun lv108 hk109 => ?_)
                    have hk109 : lk lv108 [(9, .int (v9 + Int32.ofInt 1)), (7, .long q34), (6, .int q24), (14, .int (Int32.ofInt 0)), (13, .int (Int32.ofInt 1)), (11, .long q34), (10, .int q24), (0, .ref 69), (1, .int v1), (2, .int v2), (3, .int v3), (4, .int v4), (5, .int v5)] := hk109
                    refine py_its (pc := 188) (pc1 := 46) (lv1 := lv108) (st1 := []) 1 (fun _ _ _ _ => rfl) ?_
                    exact ih q24 q34 (v9 + Int32.ofInt 1) q29.2 lv108 _ hS32 ⟨lk_find hk109 rfl, lk_find hk109 rfl, lk_find hk109 rfl, lk_find hk109 rfl, lk_find hk109 rfl, lk_find hk109 rfl, lk_find hk109 rfl, lk_find hk109 rfl, lk_find hk109 rfl, trivial⟩ h
                  | false =>
                    have h := cd_f hb103 h
                    refine py_if (pc := 164) (len := 3) false rfl hb103 ?_
                    refine py_il (pc := 167) (len := 2) (j := 13) rfl hk102 rfl ?_
                    refine py_if (pc := 169) (len := 3) true rfl (by decide) ?_
                    refine py_il (pc := 177) (len := 2) (j := 10) rfl hk102 rfl ?_
                    refine py_sti (pc := 179) (len := 2) (j := 6) rfl rfl hk102 (fun lv110 hk111 => ?_)
                    have hk111 : lk lv110 [(6, .int q24), (14, .int (Int32.ofInt 0)), (13, .int (Int32.ofInt 1)), (11, .long q34), (10, .int q24), (0, .ref 69), (1, .int v1), (2, .int v2), (3, .int v3), (4, .int v4), (5, .int v5), (7, .long v7), (9, .int v9)] := hk111
                    refine py_ll (pc := 181) (len := 2) (j := 11) rfl hk111 rfl ?_
                    refine py_stl (pc := 183) (len := 2) (j := 7) rfl rfl hk111 (fun lv112 hk113 => ?_)
                    have hk113 : lk lv112 [(7, .long q34), (6, .int q24), (14, .int (Int32.ofInt 0)), (13, .int (Int32.ofInt 1)), (11, .long q34), (10, .int q24), (0, .ref 69), (1, .int v1), (2, .int v2), (3, .int v3), (4, .int v4), (5, .int v5), (9, .int v9)] := hk113
                    refine py_inc (pc := 185) (len := 3) (j := 9) (n := 1) rfl rfl hk113 rfl (fun lv114 hk115 => ?_)
                    have hk115 : lk lv114 [(9, .int (v9 + Int32.ofInt 1)), (7, .long q34), (6, .int q24), (14, .int (Int32.ofInt 0)), (13, .int (Int32.ofInt 1)), (11, .long q34), (10, .int q24), (0, .ref 69), (1, .int v1), (2, .int v2), (3, .int v3), (4, .int v4), (5, .int v5)] := hk115
                    refine py_its (pc := 188) (pc1 := 46) (lv1 := lv114) (st1 := []) 1 (fun _ _ _ _ => rfl) ?_
                    exact ih q24 q34 (v9 + Int32.ofInt 1) q29.2 lv114 _ hS32 ⟨lk_find hk115 rfl, lk_find hk115 rfl, lk_find hk115 rfl, lk_find hk115 rfl, lk_find hk115 rfl, lk_find hk115 rfl, lk_find hk115 rfl, lk_find hk115 rfl, lk_find hk115 rfl, trivial⟩ h
                | false =>
                  have h := cd_f hb100 h
                  refine py_ic (pc := 152) (len := 3) false rfl hb100 ?_
                  refine py_its (pc := 155) (pc1 := 160) (lv1 := lv82) (st1 := [.int (Int32.ofInt 1)]) 2 (fun _ _ _ _ => rfl) ?_
                  refine py_sti (pc := 160) (len := 2) (j := 14) rfl rfl hk83 (fun lv116 hk117 => ?_)
                  have hk117 : lk lv116 [(14, .int (Int32.ofInt 1)), (13, .int (Int32.ofInt 1)), (11, .long q34), (10, .int q24), (0, .ref 69), (1, .int v1), (2, .int v2), (3, .int v3), (4, .int v4), (5, .int v5), (6, .int v6), (7, .long v7), (9, .int v9)] := hk117
                  refine py_il (pc := 162) (len := 2) (j := 6) rfl hk117 rfl ?_
                  cases hb118 : px_cmp .lt v6 0 with
                  | true =>
                    have h := cd_t hb118 h
                    refine py_if (pc := 164) (len := 3) true rfl hb118 ?_
                    refine py_il (pc := 177) (len := 2) (j := 10) rfl hk117 rfl ?_
                    refine py_sti (pc := 179) (len := 2) (j := 6) rfl rfl hk117 (fun lv119 hk120 => ?_)
                    have hk120 : lk lv119 [(6, .int q24), (14, .int (Int32.ofInt 1)), (13, .int (Int32.ofInt 1)), (11, .long q34), (10, .int q24), (0, .ref 69), (1, .int v1), (2, .int v2), (3, .int v3), (4, .int v4), (5, .int v5), (7, .long v7), (9, .int v9)] := hk120
                    refine py_ll (pc := 181) (len := 2) (j := 11) rfl hk120 rfl ?_
                    refine py_stl (pc := 183) (len := 2) (j := 7) rfl rfl hk120 (fun lv121 hk122 => ?_)
                    have hk122 : lk lv121 [(7, .long q34), (6, .int q24), (14, .int (Int32.ofInt 1)), (13, .int (Int32.ofInt 1)), (11, .long q34), (10, .int q24), (0, .ref 69), (1, .int v1), (2, .int v2), (3, .int v3), (4, .int v4), (5, .int v5), (9, .int v9)] := hk122
                    refine py_inc (pc := 185) (len := 3) (j := 9) (n := 1) rfl rfl hk122 rfl (fun lv123 hk124 => ?_)
                    have hk124 : lk lv123 [(9, .int (v9 + Int32.ofInt 1)), (7, .long q34), (6, .int q24), (14, .int (Int32.ofInt 1)), (13, .int (Int32.ofInt 1)), (11, .long q34), (10, .int q24), (0, .ref 69), (1, .int v1), (2, .int v2), (3, .int v3), (4, .int v4), (5, .int v5)] := hk124
                    refine py_its (pc := 188) (pc1 := 46) (lv1 := lv123) (st1 := []) 1 (fun _ _ _ _ => rfl) ?_
                    exact ih q24 q34 (v9 + Int32.ofInt 1) q29.2 lv123 _ hS32 ⟨lk_find hk124 rfl, lk_find hk124 rfl, lk_find hk124 rfl, lk_find hk124 rfl, lk_find hk124 rfl, lk_find hk124 rfl, lk_find hk124 rfl, lk_find hk124 rfl, lk_find hk124 rfl, trivial⟩ h
                  | false =>
                    have h := cd_f hb118 h
                    refine py_if (pc := 164) (len := 3) false rfl hb118 ?_
                    refine py_il (pc := 167) (len := 2) (j := 13) rfl hk117 rfl ?_
                    refine py_if (pc := 169) (len := 3) true rfl (by decide) ?_
                    refine py_il (pc := 177) (len := 2) (j := 10) rfl hk117 rfl ?_
                    refine py_sti (pc := 179) (len := 2) (j := 6) rfl rfl hk117 (fun lv125 hk126 => ?_)
                    have hk126 : lk lv125 [(6, .int q24), (14, .int (Int32.ofInt 1)), (13, .int (Int32.ofInt 1)), (11, .long q34), (10, .int q24), (0, .ref 69), (1, .int v1), (2, .int v2), (3, .int v3), (4, .int v4), (5, .int v5), (7, .long v7), (9, .int v9)] := hk126
                    refine py_ll (pc := 181) (len := 2) (j := 11) rfl hk126 rfl ?_
                    refine py_stl (pc := 183) (len := 2) (j := 7) rfl rfl hk126 (fun lv127 hk128 => ?_)
                    have hk128 : lk lv127 [(7, .long q34), (6, .int q24), (14, .int (Int32.ofInt 1)), (13, .int (Int32.ofInt 1)), (11, .long q34), (10, .int q24), (0, .ref 69), (1, .int v1), (2, .int v2), (3, .int v3), (4, .int v4), (5, .int v5), (9, .int v9)] := hk128
                    refine py_inc (pc := 185) (len := 3) (j := 9) (n := 1) rfl rfl hk128 rfl (fun lv129 hk130 => ?_)
                    have hk130 : lk lv129 [(9, .int (v9 + Int32.ofInt 1)), (7, .long q34), (6, .int q24), (14, .int (Int32.ofInt 1)), (13, .int (Int32.ofInt 1)), (11, .long q34), (10, .int q24), (0, .ref 69), (1, .int v1), (2, .int v2), (3, .int v3), (4, .int v4), (5, .int v5)] := hk130
                    refine py_its (pc := 188) (pc1 := 46) (lv1 := lv129) (st1 := []) 1 (fun _ _ _ _ => rfl) ?_
                    exact ih q24 q34 (v9 + Int32.ofInt 1) q29.2 lv129 _ hS32 ⟨lk_find hk130 rfl, lk_find hk130 rfl, lk_find hk130 rfl, lk_find hk130 rfl, lk_find hk130 rfl, lk_find hk130 rfl, lk_find hk130 rfl, lk_find hk130 rfl, lk_find hk130 rfl, trivial⟩ h
          | false =>
            have h := cd_f hb39 h
            refine py_if (pc := 100) (len := 3) false rfl hb39 ?_
            refine py_ll (pc := 103) (len := 2) (j := 11) rfl hk38 rfl ?_
            refine py_ll (pc := 105) (len := 2) (j := 7) rfl hk38 rfl ?_
            cases hb131 : px_cmp .le (lg_cmp q34 v7) 0 with
            | true =>
              have h := cd_t hb131 h
              refine py_lc (pc := 107) (len := 1) true rfl rfl hb131 ?_
              refine py_its (pc := 115) (pc1 := 132) (lv1 := lv37) (st1 := [.int (Int32.ofInt 0)]) 2 (fun _ _ _ _ => rfl) ?_
              refine py_sti (pc := 132) (len := 2) (j := 13) rfl rfl hk38 (fun lv132 hk133 => ?_)
              have hk133 : lk lv132 [(13, .int (Int32.ofInt 0)), (11, .long q34), (10, .int q24), (0, .ref 69), (1, .int v1), (2, .int v2), (3, .int v3), (4, .int v4), (5, .int v5), (6, .int v6), (7, .long v7), (9, .int v9)] := hk133
              refine py_ll (pc := 134) (len := 2) (j := 11) rfl hk133 rfl ?_
              refine py_ll (pc := 136) (len := 2) (j := 7) rfl hk133 rfl ?_
              cases hb134 : px_cmp .ne (lg_cmp q34 v7) 0 with
              | true =>
                have h := cd_t hb134 h
                refine py_lc (pc := 138) (len := 1) true rfl rfl hb134 ?_
                refine py_its (pc := 159) (pc1 := 160) (lv1 := lv132) (st1 := [.int (Int32.ofInt 0)]) 1 (fun _ _ _ _ => rfl) ?_
                refine py_sti (pc := 160) (len := 2) (j := 14) rfl rfl hk133 (fun lv135 hk136 => ?_)
                have hk136 : lk lv135 [(14, .int (Int32.ofInt 0)), (13, .int (Int32.ofInt 0)), (11, .long q34), (10, .int q24), (0, .ref 69), (1, .int v1), (2, .int v2), (3, .int v3), (4, .int v4), (5, .int v5), (6, .int v6), (7, .long v7), (9, .int v9)] := hk136
                refine py_il (pc := 162) (len := 2) (j := 6) rfl hk136 rfl ?_
                cases hb137 : px_cmp .lt v6 0 with
                | true =>
                  have h := cd_t hb137 h
                  refine py_if (pc := 164) (len := 3) true rfl hb137 ?_
                  refine py_il (pc := 177) (len := 2) (j := 10) rfl hk136 rfl ?_
                  refine py_sti (pc := 179) (len := 2) (j := 6) rfl rfl hk136 (fun lv138 hk139 => ?_)
                  have hk139 : lk lv138 [(6, .int q24), (14, .int (Int32.ofInt 0)), (13, .int (Int32.ofInt 0)), (11, .long q34), (10, .int q24), (0, .ref 69), (1, .int v1), (2, .int v2), (3, .int v3), (4, .int v4), (5, .int v5), (7, .long v7), (9, .int v9)] := hk139
                  refine py_ll (pc := 181) (len := 2) (j := 11) rfl hk139 rfl ?_
                  refine py_stl (pc := 183) (len := 2) (j := 7) rfl rfl hk139 (fun lv140 hk141 => ?_)
                  have hk141 : lk lv140 [(7, .long q34), (6, .int q24), (14, .int (Int32.ofInt 0)), (13, .int (Int32.ofInt 0)), (11, .long q34), (10, .int q24), (0, .ref 69), (1, .int v1), (2, .int v2), (3, .int v3), (4, .int v4), (5, .int v5), (9, .int v9)] := hk141
                  refine py_inc (pc := 185) (len := 3) (j := 9) (n := 1) rfl rfl hk141 rfl (fun lv142 hk143 => ?_)
                  have hk143 : lk lv142 [(9, .int (v9 + Int32.ofInt 1)), (7, .long q34), (6, .int q24), (14, .int (Int32.ofInt 0)), (13, .int (Int32.ofInt 0)), (11, .long q34), (10, .int q24), (0, .ref 69), (1, .int v1), (2, .int v2), (3, .int v3), (4, .int v4), (5, .int v5)] := hk143
                  refine py_its (pc := 188) (pc1 := 46) (lv1 := lv142) (st1 := []) 1 (fun _ _ _ _ => rfl) ?_
                  exact ih q24 q34 (v9 + Int32.ofInt 1) q29.2 lv142 _ hS32 ⟨lk_find hk143 rfl, lk_find hk143 rfl, lk_find hk143 rfl, lk_find hk143 rfl, lk_find hk143 rfl, lk_find hk143 rfl, lk_find hk143 rfl, lk_find hk143 rfl, lk_find hk143 rfl, trivial⟩ h
                | false =>
                  have h := cd_f hb137 h
                  refine py_if (pc := 164) (len := 3) false rfl hb137 ?_
                  refine py_il (pc := 167) (len := 2) (j := 13) rfl hk136 rfl ?_
                  refine py_if (pc := 169) (len := 3) false rfl (by decide) ?_
                  refine py_il (pc := 172) (len := 2) (j := 14) rfl hk136 rfl ?_
                  refine py_if (pc := 174) (len := 3) true rfl (by decide) ?_
                  refine py_inc (pc := 185) (len := 3) (j := 9) (n := 1) rfl rfl hk136 rfl (fun lv144 hk145 => ?_)
                  have hk145 : lk lv144 [(9, .int (v9 + Int32.ofInt 1)), (14, .int (Int32.ofInt 0)), (13, .int (Int32.ofInt 0)), (11, .long q34), (10, .int q24), (0, .ref 69), (1, .int v1), (2, .int v2), (3, .int v3), (4, .int v4), (5, .int v5), (6, .int v6), (7, .long v7)] := hk145
                  refine py_its (pc := 188) (pc1 := 46) (lv1 := lv144) (st1 := []) 1 (fun _ _ _ _ => rfl) ?_
                  exact ih v6 v7 (v9 + Int32.ofInt 1) q29.2 lv144 _ hS32 ⟨lk_find hk145 rfl, lk_find hk145 rfl, lk_find hk145 rfl, lk_find hk145 rfl, lk_find hk145 rfl, lk_find hk145 rfl, lk_find hk145 rfl, lk_find hk145 rfl, lk_find hk145 rfl, trivial⟩ h
              | false =>
                have h := cd_f hb134 h
                refine py_lc (pc := 138) (len := 1) false rfl rfl hb134 ?_
                refine py_il (pc := 142) (len := 2) (j := 10) rfl hk133 rfl ?_
                refine py_st (pc := 144) (mi := mi_I_bitCount) (N := mm_I_bitCount) rfl rfl rfl (Nat.le_of_ble_eq_true rfl) (Nat.le_of_ble_eq_true rfl) rfl rfl (nm_bc_C q24 q29.2) ?_
                show px_Y mm_M_best 147 lv132 [.int (nm_bc q24)] q29.2 _ _
                refine py_il (pc := 147) (len := 2) (j := 6) rfl hk133 rfl ?_
                refine py_st (pc := 149) (mi := mi_I_bitCount) (N := mm_I_bitCount) rfl rfl rfl (Nat.le_of_ble_eq_true rfl) (Nat.le_of_ble_eq_true rfl) rfl rfl (nm_bc_C v6 q29.2) ?_
                show px_Y mm_M_best 152 lv132 [.int (nm_bc v6), .int (nm_bc q24)] q29.2 _ _
                cases hb146 : px_cmp .ge (nm_bc q24) (nm_bc v6) with
                | true =>
                  have h := cd_t hb146 h
                  refine py_ic (pc := 152) (len := 3) true rfl hb146 ?_
                  refine py_its (pc := 159) (pc1 := 160) (lv1 := lv132) (st1 := [.int (Int32.ofInt 0)]) 1 (fun _ _ _ _ => rfl) ?_
                  refine py_sti (pc := 160) (len := 2) (j := 14) rfl rfl hk133 (fun lv147 hk148 => ?_)
                  have hk148 : lk lv147 [(14, .int (Int32.ofInt 0)), (13, .int (Int32.ofInt 0)), (11, .long q34), (10, .int q24), (0, .ref 69), (1, .int v1), (2, .int v2), (3, .int v3), (4, .int v4), (5, .int v5), (6, .int v6), (7, .long v7), (9, .int v9)] := hk148
                  refine py_il (pc := 162) (len := 2) (j := 6) rfl hk148 rfl ?_
                  cases hb149 : px_cmp .lt v6 0 with
                  | true =>
                    have h := cd_t hb149 h
                    refine py_if (pc := 164) (len := 3) true rfl hb149 ?_
                    refine py_il (pc := 177) (len := 2) (j := 10) rfl hk148 rfl ?_
                    refine py_sti (pc := 179) (len := 2) (j := 6) rfl rfl hk148 (fun lv150 hk151 => ?_)
                    have hk151 : lk lv150 [(6, .int q24), (14, .int (Int32.ofInt 0)), (13, .int (Int32.ofInt 0)), (11, .long q34), (10, .int q24), (0, .ref 69), (1, .int v1), (2, .int v2), (3, .int v3), (4, .int v4), (5, .int v5), (7, .long v7), (9, .int v9)] := hk151
                    refine py_ll (pc := 181) (len := 2) (j := 11) rfl hk151 rfl ?_
                    refine py_stl (pc := 183) (len := 2) (j := 7) rfl rfl hk151 (fun lv152 hk153 => ?_)
                    have hk153 : lk lv152 [(7, .long q34), (6, .int q24), (14, .int (Int32.ofInt 0)), (13, .int (Int32.ofInt 0)), (11, .long q34), (10, .int q24), (0, .ref 69), (1, .int v1), (2, .int v2), (3, .int v3), (4, .int v4), (5, .int v5), (9, .int v9)] := hk153
                    refine py_inc (pc := 185) (len := 3) (j := 9) (n := 1) rfl rfl hk153 rfl (fun lv154 hk155 => ?_)
                    have hk155 : lk lv154 [(9, .int (v9 + Int32.ofInt 1)), (7, .long q34), (6, .int q24), (14, .int (Int32.ofInt 0)), (13, .int (Int32.ofInt 0)), (11, .long q34), (10, .int q24), (0, .ref 69), (1, .int v1), (2, .int v2), (3, .int v3), (4, .int v4), (5, .int v5)] := hk155
                    refine py_its (pc := 188) (pc1 := 46) (lv1 := lv154) (st1 := []) 1 (fun _ _ _ _ => rfl) ?_
                    exact ih q24 q34 (v9 + Int32.ofInt 1) q29.2 lv154 _ hS32 ⟨lk_find hk155 rfl, lk_find hk155 rfl, lk_find hk155 rfl, lk_find hk155 rfl, lk_find hk155 rfl, lk_find hk155 rfl, lk_find hk155 rfl, lk_find hk155 rfl, lk_find hk155 rfl, trivial⟩ h
                  | false =>
                    have h := cd_f hb149 h
                    refine py_if (pc := 164) (len := 3) false rfl hb149 ?_
                    refine py_il (pc := 167) (len := 2) (j := 13) rfl hk148 rfl ?_
                    refine py_if (pc := 169) (len := 3) false rfl (by decide) ?_
                    refine py_il (pc := 172) (len := 2) (j := 14) rfl hk148 rfl ?_
                    refine py_if (pc := 174) (len := 3) true rfl (by decide) ?_
                    refine py_inc (pc := 185) (len := 3) (j := 9) (n := 1) rfl rfl hk148 rfl (fun lv156 hk157 => ?_)
                    have hk157 : lk lv156 [(9, .int (v9 + Int32.ofInt 1)), (14, .int (Int32.ofInt 0)), (13, .int (Int32.ofInt 0)), (11, .long q34), (10, .int q24), (0, .ref 69), (1, .int v1), (2, .int v2), (3, .int v3), (4, .int v4), (5, .int v5), (6, .int v6), (7, .long v7)] := hk157
                    refine py_its (pc := 188) (pc1 := 46) (lv1 := lv156) (st1 := []) 1 (fun _ _ _ _ => rfl) ?_
                    exact ih v6 v7 (v9 + Int32.ofInt 1) q29.2 lv156 _ hS32 ⟨lk_find hk157 rfl, lk_find hk157 rfl, lk_find hk157 rfl, lk_find hk157 rfl, lk_find hk157 rfl, lk_find hk157 rfl, lk_find hk157 rfl, lk_find hk157 rfl, lk_find hk157 rfl, trivial⟩ h
                | false =>
                  have h := cd_f hb146 h
                  refine py_ic (pc := 152) (len := 3) false rfl hb146 ?_
                  refine py_its (pc := 155) (pc1 := 160) (lv1 := lv132) (st1 := [.int (Int32.ofInt 1)]) 2 (fun _ _ _ _ => rfl) ?_
                  refine py_sti (pc := 160) (len := 2) (j := 14) rfl rfl hk133 (fun lv158 hk159 => ?_)
                  have hk159 : lk lv158 [(14, .int (Int32.ofInt 1)), (13, .int (Int32.ofInt 0)), (11, .long q34), (10, .int q24), (0, .ref 69), (1, .int v1), (2, .int v2), (3, .int v3), (4, .int v4), (5, .int v5), (6, .int v6), (7, .long v7), (9, .int v9)] := hk159
                  refine py_il (pc := 162) (len := 2) (j := 6) rfl hk159 rfl ?_
                  cases hb160 : px_cmp .lt v6 0 with
                  | true =>
                    have h := cd_t hb160 h
                    refine py_if (pc := 164) (len := 3) true rfl hb160 ?_
                    refine py_il (pc := 177) (len := 2) (j := 10) rfl hk159 rfl ?_
                    refine py_sti (pc := 179) (len := 2) (j := 6) rfl rfl hk159 (fun lv161 hk162 => ?_)
                    have hk162 : lk lv161 [(6, .int q24), (14, .int (Int32.ofInt 1)), (13, .int (Int32.ofInt 0)), (11, .long q34), (10, .int q24), (0, .ref 69), (1, .int v1), (2, .int v2), (3, .int v3), (4, .int v4), (5, .int v5), (7, .long v7), (9, .int v9)] := hk162
                    refine py_ll (pc := 181) (len := 2) (j := 11) rfl hk162 rfl ?_
                    refine py_stl (pc := 183) (len := 2) (j := 7) rfl rfl hk162 (fun lv163 hk164 => ?_)
                    have hk164 : lk lv163 [(7, .long q34), (6, .int q24), (14, .int (Int32.ofInt 1)), (13, .int (Int32.ofInt 0)), (11, .long q34), (10, .int q24), (0, .ref 69), (1, .int v1), (2, .int v2), (3, .int v3), (4, .int v4), (5, .int v5), (9, .int v9)] := hk164
                    refine py_inc (pc := 185) (len := 3) (j := 9) (n := 1) rfl rfl hk164 rfl (fun lv165 hk166 => ?_)
                    have hk166 : lk lv165 [(9, .int (v9 + Int32.ofInt 1)), (7, .long q34), (6, .int q24), (14, .int (Int32.ofInt 1)), (13, .int (Int32.ofInt 0)), (11, .long q34), (10, .int q24), (0, .ref 69), (1, .int v1), (2, .int v2), (3, .int v3), (4, .int v4), (5, .int v5)] := hk166
                    refine py_its (pc := 188) (pc1 := 46) (lv1 := lv165) (st1 := []) 1 (fun _ _ _ _ => rfl) ?_
                    exact ih q24 q34 (v9 + Int32.ofInt 1) q29.2 lv165 _ hS32 ⟨lk_find hk166 rfl, lk_find hk166 rfl, lk_find hk166 rfl, lk_find hk166 rfl, lk_find hk166 rfl, lk_find hk166 rfl, lk_find hk166 rfl, lk_find hk166 rfl, lk_find hk166 rfl, trivial⟩ h
                  | false =>
                    have h := cd_f hb160 h
                    refine py_if (pc := 164) (len := 3) false rfl hb160 ?_
                    refine py_il (pc := 167) (len := 2) (j := 13) rfl hk159 rfl ?_
                    refine py_if (pc := 169) (len := 3) false rfl (by decide) ?_
                    refine py_il (pc := 172) (len := 2) (j := 14) rfl hk159 rfl ?_
                    refine py_if (pc := 174) (len := 3) false rfl (by decide) ?_
                    refine py_il (pc := 177) (len := 2) (j := 10) rfl hk159 rfl ?_
                    refine py_sti (pc := 179) (len := 2) (j := 6) rfl rfl hk159 (fun lv167 hk168 => ?_)
                    have hk168 : lk lv167 [(6, .int q24), (14, .int (Int32.ofInt 1)), (13, .int (Int32.ofInt 0)), (11, .long q34), (10, .int q24), (0, .ref 69), (1, .int v1), (2, .int v2), (3, .int v3), (4, .int v4), (5, .int v5), (7, .long v7), (9, .int v9)] := hk168
                    refine py_ll (pc := 181) (len := 2) (j := 11) rfl hk168 rfl ?_
                    refine py_stl (pc := 183) (len := 2) (j := 7) rfl rfl hk168 (fun lv169 hk170 => ?_)
                    have hk170 : lk lv169 [(7, .long q34), (6, .int q24), (14, .int (Int32.ofInt 1)), (13, .int (Int32.ofInt 0)), (11, .long q34), (10, .int q24), (0, .ref 69), (1, .int v1), (2, .int v2), (3, .int v3), (4, .int v4), (5, .int v5), (9, .int v9)] := hk170
                    refine py_inc (pc := 185) (len := 3) (j := 9) (n := 1) rfl rfl hk170 rfl (fun lv171 hk172 => ?_)
                    have hk172 : lk lv171 [(9, .int (v9 + Int32.ofInt 1)), (7, .long q34), (6, .int q24), (14, .int (Int32.ofInt 1)), (13, .int (Int32.ofInt 0)), (11, .long q34), (10, .int q24), (0, .ref 69), (1, .int v1), (2, .int v2), (3, .int v3), (4, .int v4), (5, .int v5)] := hk172
                    refine py_its (pc := 188) (pc1 := 46) (lv1 := lv171) (st1 := []) 1 (fun _ _ _ _ => rfl) ?_
                    exact ih q24 q34 (v9 + Int32.ofInt 1) q29.2 lv171 _ hS32 ⟨lk_find hk172 rfl, lk_find hk172 rfl, lk_find hk172 rfl, lk_find hk172 rfl, lk_find hk172 rfl, lk_find hk172 rfl, lk_find hk172 rfl, lk_find hk172 rfl, lk_find hk172 rfl, trivial⟩ h
            | false =>
              have h := cd_f hb131 h
              refine py_lc (pc := 107) (len := 1) false rfl rfl hb131 ?_
              refine py_its (pc := 111) (pc1 := 132) (lv1 := lv37) (st1 := [.int (Int32.ofInt 1)]) 2 (fun _ _ _ _ => rfl) ?_
              refine py_sti (pc := 132) (len := 2) (j := 13) rfl rfl hk38 (fun lv173 hk174 => ?_)
              have hk174 : lk lv173 [(13, .int (Int32.ofInt 1)), (11, .long q34), (10, .int q24), (0, .ref 69), (1, .int v1), (2, .int v2), (3, .int v3), (4, .int v4), (5, .int v5), (6, .int v6), (7, .long v7), (9, .int v9)] := hk174
              refine py_ll (pc := 134) (len := 2) (j := 11) rfl hk174 rfl ?_
              refine py_ll (pc := 136) (len := 2) (j := 7) rfl hk174 rfl ?_
              cases hb175 : px_cmp .ne (lg_cmp q34 v7) 0 with
              | true =>
                have h := cd_t hb175 h
                refine py_lc (pc := 138) (len := 1) true rfl rfl hb175 ?_
                refine py_its (pc := 159) (pc1 := 160) (lv1 := lv173) (st1 := [.int (Int32.ofInt 0)]) 1 (fun _ _ _ _ => rfl) ?_
                refine py_sti (pc := 160) (len := 2) (j := 14) rfl rfl hk174 (fun lv176 hk177 => ?_)
                have hk177 : lk lv176 [(14, .int (Int32.ofInt 0)), (13, .int (Int32.ofInt 1)), (11, .long q34), (10, .int q24), (0, .ref 69), (1, .int v1), (2, .int v2), (3, .int v3), (4, .int v4), (5, .int v5), (6, .int v6), (7, .long v7), (9, .int v9)] := hk177
                refine py_il (pc := 162) (len := 2) (j := 6) rfl hk177 rfl ?_
                cases hb178 : px_cmp .lt v6 0 with
                | true =>
                  have h := cd_t hb178 h
                  refine py_if (pc := 164) (len := 3) true rfl hb178 ?_
                  refine py_il (pc := 177) (len := 2) (j := 10) rfl hk177 rfl ?_
                  refine py_sti (pc := 179) (len := 2) (j := 6) rfl rfl hk177 (fun lv179 hk180 => ?_)
                  have hk180 : lk lv179 [(6, .int q24), (14, .int (Int32.ofInt 0)), (13, .int (Int32.ofInt 1)), (11, .long q34), (10, .int q24), (0, .ref 69), (1, .int v1), (2, .int v2), (3, .int v3), (4, .int v4), (5, .int v5), (7, .long v7), (9, .int v9)] := hk180
                  refine py_ll (pc := 181) (len := 2) (j := 11) rfl hk180 rfl ?_
                  refine py_stl (pc := 183) (len := 2) (j := 7) rfl rfl hk180 (fun lv181 hk182 => ?_)
                  have hk182 : lk lv181 [(7, .long q34), (6, .int q24), (14, .int (Int32.ofInt 0)), (13, .int (Int32.ofInt 1)), (11, .long q34), (10, .int q24), (0, .ref 69), (1, .int v1), (2, .int v2), (3, .int v3), (4, .int v4), (5, .int v5), (9, .int v9)] := hk182
                  refine py_inc (pc := 185) (len := 3) (j := 9) (n := 1) rfl rfl hk182 rfl (fun lv183 hk184 => ?_)
                  have hk184 : lk lv183 [(9, .int (v9 + Int32.ofInt 1)), (7, .long q34), (6, .int q24), (14, .int (Int32.ofInt 0)), (13, .int (Int32.ofInt 1)), (11, .long q34), (10, .int q24), (0, .ref 69), (1, .int v1), (2, .int v2), (3, .int v3), (4, .int v4), (5, .int v5)] := hk184
                  refine py_its (pc := 188) (pc1 := 46) (lv1 := lv183) (st1 := []) 1 (fun _ _ _ _ => rfl) ?_
                  exact ih q24 q34 (v9 + Int32.ofInt 1) q29.2 lv183 _ hS32 ⟨lk_find hk184 rfl, lk_find hk184 rfl, lk_find hk184 rfl, lk_find hk184 rfl, lk_find hk184 rfl, lk_find hk184 rfl, lk_find hk184 rfl, lk_find hk184 rfl, lk_find hk184 rfl, trivial⟩ h
                | false =>
                  have h := cd_f hb178 h
                  refine py_if (pc := 164) (len := 3) false rfl hb178 ?_
                  refine py_il (pc := 167) (len := 2) (j := 13) rfl hk177 rfl ?_
                  refine py_if (pc := 169) (len := 3) true rfl (by decide) ?_
                  refine py_il (pc := 177) (len := 2) (j := 10) rfl hk177 rfl ?_
                  refine py_sti (pc := 179) (len := 2) (j := 6) rfl rfl hk177 (fun lv185 hk186 => ?_)
                  have hk186 : lk lv185 [(6, .int q24), (14, .int (Int32.ofInt 0)), (13, .int (Int32.ofInt 1)), (11, .long q34), (10, .int q24), (0, .ref 69), (1, .int v1), (2, .int v2), (3, .int v3), (4, .int v4), (5, .int v5), (7, .long v7), (9, .int v9)] := hk186
                  refine py_ll (pc := 181) (len := 2) (j := 11) rfl hk186 rfl ?_
                  refine py_stl (pc := 183) (len := 2) (j := 7) rfl rfl hk186 (fun lv187 hk188 => ?_)
                  have hk188 : lk lv187 [(7, .long q34), (6, .int q24), (14, .int (Int32.ofInt 0)), (13, .int (Int32.ofInt 1)), (11, .long q34), (10, .int q24), (0, .ref 69), (1, .int v1), (2, .int v2), (3, .int v3), (4, .int v4), (5, .int v5), (9, .int v9)] := hk188
                  refine py_inc (pc := 185) (len := 3) (j := 9) (n := 1) rfl rfl hk188 rfl (fun lv189 hk190 => ?_)
                  have hk190 : lk lv189 [(9, .int (v9 + Int32.ofInt 1)), (7, .long q34), (6, .int q24), (14, .int (Int32.ofInt 0)), (13, .int (Int32.ofInt 1)), (11, .long q34), (10, .int q24), (0, .ref 69), (1, .int v1), (2, .int v2), (3, .int v3), (4, .int v4), (5, .int v5)] := hk190
                  refine py_its (pc := 188) (pc1 := 46) (lv1 := lv189) (st1 := []) 1 (fun _ _ _ _ => rfl) ?_
                  exact ih q24 q34 (v9 + Int32.ofInt 1) q29.2 lv189 _ hS32 ⟨lk_find hk190 rfl, lk_find hk190 rfl, lk_find hk190 rfl, lk_find hk190 rfl, lk_find hk190 rfl, lk_find hk190 rfl, lk_find hk190 rfl, lk_find hk190 rfl, lk_find hk190 rfl, trivial⟩ h
              | false =>
                have h := cd_f hb175 h
                refine py_lc (pc := 138) (len := 1) false rfl rfl hb175 ?_
                refine py_il (pc := 142) (len := 2) (j := 10) rfl hk174 rfl ?_
                refine py_st (pc := 144) (mi := mi_I_bitCount) (N := mm_I_bitCount) rfl rfl rfl (Nat.le_of_ble_eq_true rfl) (Nat.le_of_ble_eq_true rfl) rfl rfl (nm_bc_C q24 q29.2) ?_
                show px_Y mm_M_best 147 lv173 [.int (nm_bc q24)] q29.2 _ _
                refine py_il (pc := 147) (len := 2) (j := 6) rfl hk174 rfl ?_
                refine py_st (pc := 149) (mi := mi_I_bitCount) (N := mm_I_bitCount) rfl rfl rfl (Nat.le_of_ble_eq_true rfl) (Nat.le_of_ble_eq_true rfl) rfl rfl (nm_bc_C v6 q29.2) ?_
                show px_Y mm_M_best 152 lv173 [.int (nm_bc v6), .int (nm_bc q24)] q29.2 _ _
                cases hb191 : px_cmp .ge (nm_bc q24) (nm_bc v6) with
                | true =>
                  have h := cd_t hb191 h
                  refine py_ic (pc := 152) (len := 3) true rfl hb191 ?_
                  refine py_its (pc := 159) (pc1 := 160) (lv1 := lv173) (st1 := [.int (Int32.ofInt 0)]) 1 (fun _ _ _ _ => rfl) ?_
                  refine py_sti (pc := 160) (len := 2) (j := 14) rfl rfl hk174 (fun lv192 hk193 => ?_)
                  have hk193 : lk lv192 [(14, .int (Int32.ofInt 0)), (13, .int (Int32.ofInt 1)), (11, .long q34), (10, .int q24), (0, .ref 69), (1, .int v1), (2, .int v2), (3, .int v3), (4, .int v4), (5, .int v5), (6, .int v6), (7, .long v7), (9, .int v9)] := hk193
                  refine py_il (pc := 162) (len := 2) (j := 6) rfl hk193 rfl ?_
                  cases hb194 : px_cmp .lt v6 0 with
                  | true =>
                    have h := cd_t hb194 h
                    refine py_if (pc := 164) (len := 3) true rfl hb194 ?_
                    refine py_il (pc := 177) (len := 2) (j := 10) rfl hk193 rfl ?_
                    refine py_sti (pc := 179) (len := 2) (j := 6) rfl rfl hk193 (fun lv195 hk196 => ?_)
                    have hk196 : lk lv195 [(6, .int q24), (14, .int (Int32.ofInt 0)), (13, .int (Int32.ofInt 1)), (11, .long q34), (10, .int q24), (0, .ref 69), (1, .int v1), (2, .int v2), (3, .int v3), (4, .int v4), (5, .int v5), (7, .long v7), (9, .int v9)] := hk196
                    refine py_ll (pc := 181) (len := 2) (j := 11) rfl hk196 rfl ?_
                    refine py_stl (pc := 183) (len := 2) (j := 7) rfl rfl hk196 (fun lv197 hk198 => ?_)
                    have hk198 : lk lv197 [(7, .long q34), (6, .int q24), (14, .int (Int32.ofInt 0)), (13, .int (Int32.ofInt 1)), (11, .long q34), (10, .int q24), (0, .ref 69), (1, .int v1), (2, .int v2), (3, .int v3), (4, .int v4), (5, .int v5), (9, .int v9)] := hk198
                    refine py_inc (pc := 185) (len := 3) (j := 9) (n := 1) rfl rfl hk198 rfl (fun lv199 hk200 => ?_)
                    have hk200 : lk lv199 [(9, .int (v9 + Int32.ofInt 1)), (7, .long q34), (6, .int q24), (14, .int (Int32.ofInt 0)), (13, .int (Int32.ofInt 1)), (11, .long q34), (10, .int q24), (0, .ref 69), (1, .int v1), (2, .int v2), (3, .int v3), (4, .int v4), (5, .int v5)] := hk200
                    refine py_its (pc := 188) (pc1 := 46) (lv1 := lv199) (st1 := []) 1 (fun _ _ _ _ => rfl) ?_
                    exact ih q24 q34 (v9 + Int32.ofInt 1) q29.2 lv199 _ hS32 ⟨lk_find hk200 rfl, lk_find hk200 rfl, lk_find hk200 rfl, lk_find hk200 rfl, lk_find hk200 rfl, lk_find hk200 rfl, lk_find hk200 rfl, lk_find hk200 rfl, lk_find hk200 rfl, trivial⟩ h
                  | false =>
                    have h := cd_f hb194 h
                    refine py_if (pc := 164) (len := 3) false rfl hb194 ?_
                    refine py_il (pc := 167) (len := 2) (j := 13) rfl hk193 rfl ?_
                    refine py_if (pc := 169) (len := 3) true rfl (by decide) ?_
                    refine py_il (pc := 177) (len := 2) (j := 10) rfl hk193 rfl ?_
                    refine py_sti (pc := 179) (len := 2) (j := 6) rfl rfl hk193 (fun lv201 hk202 => ?_)
                    have hk202 : lk lv201 [(6, .int q24), (14, .int (Int32.ofInt 0)), (13, .int (Int32.ofInt 1)), (11, .long q34), (10, .int q24), (0, .ref 69), (1, .int v1), (2, .int v2), (3, .int v3), (4, .int v4), (5, .int v5), (7, .long v7), (9, .int v9)] := hk202
                    refine py_ll (pc := 181) (len := 2) (j := 11) rfl hk202 rfl ?_
                    refine py_stl (pc := 183) (len := 2) (j := 7) rfl rfl hk202 (fun lv203 hk204 => ?_)
                    have hk204 : lk lv203 [(7, .long q34), (6, .int q24), (14, .int (Int32.ofInt 0)), (13, .int (Int32.ofInt 1)), (11, .long q34), (10, .int q24), (0, .ref 69), (1, .int v1), (2, .int v2), (3, .int v3), (4, .int v4), (5, .int v5), (9, .int v9)] := hk204
                    refine py_inc (pc := 185) (len := 3) (j := 9) (n := 1) rfl rfl hk204 rfl (fun lv205 hk206 => ?_)
                    have hk206 : lk lv205 [(9, .int (v9 + Int32.ofInt 1)), (7, .long q34), (6, .int q24), (14, .int (Int32.ofInt 0)), (13, .int (Int32.ofInt 1)), (11, .long q34), (10, .int q24), (0, .ref 69), (1, .int v1), (2, .int v2), (3, .int v3), (4, .int v4), (5, .int v5)] := hk206
                    refine py_its (pc := 188) (pc1 := 46) (lv1 := lv205) (st1 := []) 1 (fun _ _ _ _ => rfl) ?_
                    exact ih q24 q34 (v9 + Int32.ofInt 1) q29.2 lv205 _ hS32 ⟨lk_find hk206 rfl, lk_find hk206 rfl, lk_find hk206 rfl, lk_find hk206 rfl, lk_find hk206 rfl, lk_find hk206 rfl, lk_find hk206 rfl, lk_find hk206 rfl, lk_find hk206 rfl, trivial⟩ h
                | false =>
                  have h := cd_f hb191 h
                  refine py_ic (pc := 152) (len := 3) false rfl hb191 ?_
                  refine py_its (pc := 155) (pc1 := 160) (lv1 := lv173) (st1 := [.int (Int32.ofInt 1)]) 2 (fun _ _ _ _ => rfl) ?_
                  refine py_sti (pc := 160) (len := 2) (j := 14) rfl rfl hk174 (fun lv207 hk208 => ?_)
                  have hk208 : lk lv207 [(14, .int (Int32.ofInt 1)), (13, .int (Int32.ofInt 1)), (11, .long q34), (10, .int q24), (0, .ref 69), (1, .int v1), (2, .int v2), (3, .int v3), (4, .int v4), (5, .int v5), (6, .int v6), (7, .long v7), (9, .int v9)] := hk208
                  refine py_il (pc := 162) (len := 2) (j := 6) rfl hk208 rfl ?_
                  cases hb209 : px_cmp .lt v6 0 with
                  | true =>
                    have h := cd_t hb209 h
                    refine py_if (pc := 164) (len := 3) true rfl hb209 ?_
                    refine py_il (pc := 177) (len := 2) (j := 10) rfl hk208 rfl ?_
                    refine py_sti (pc := 179) (len := 2) (j := 6) rfl rfl hk208 (fun lv210 hk211 => ?_)
                    have hk211 : lk lv210 [(6, .int q24), (14, .int (Int32.ofInt 1)), (13, .int (Int32.ofInt 1)), (11, .long q34), (10, .int q24), (0, .ref 69), (1, .int v1), (2, .int v2), (3, .int v3), (4, .int v4), (5, .int v5), (7, .long v7), (9, .int v9)] := hk211
                    refine py_ll (pc := 181) (len := 2) (j := 11) rfl hk211 rfl ?_
                    refine py_stl (pc := 183) (len := 2) (j := 7) rfl rfl hk211 (fun lv212 hk213 => ?_)
                    have hk213 : lk lv212 [(7, .long q34), (6, .int q24), (14, .int (Int32.ofInt 1)), (13, .int (Int32.ofInt 1)), (11, .long q34), (10, .int q24), (0, .ref 69), (1, .int v1), (2, .int v2), (3, .int v3), (4, .int v4), (5, .int v5), (9, .int v9)] := hk213
                    refine py_inc (pc := 185) (len := 3) (j := 9) (n := 1) rfl rfl hk213 rfl (fun lv214 hk215 => ?_)
                    have hk215 : lk lv214 [(9, .int (v9 + Int32.ofInt 1)), (7, .long q34), (6, .int q24), (14, .int (Int32.ofInt 1)), (13, .int (Int32.ofInt 1)), (11, .long q34), (10, .int q24), (0, .ref 69), (1, .int v1), (2, .int v2), (3, .int v3), (4, .int v4), (5, .int v5)] := hk215
                    refine py_its (pc := 188) (pc1 := 46) (lv1 := lv214) (st1 := []) 1 (fun _ _ _ _ => rfl) ?_
                    exact ih q24 q34 (v9 + Int32.ofInt 1) q29.2 lv214 _ hS32 ⟨lk_find hk215 rfl, lk_find hk215 rfl, lk_find hk215 rfl, lk_find hk215 rfl, lk_find hk215 rfl, lk_find hk215 rfl, lk_find hk215 rfl, lk_find hk215 rfl, lk_find hk215 rfl, trivial⟩ h
                  | false =>
                    have h := cd_f hb209 h
                    refine py_if (pc := 164) (len := 3) false rfl hb209 ?_
                    refine py_il (pc := 167) (len := 2) (j := 13) rfl hk208 rfl ?_
                    refine py_if (pc := 169) (len := 3) true rfl (by decide) ?_
                    refine py_il (pc := 177) (len := 2) (j := 10) rfl hk208 rfl ?_
                    refine py_sti (pc := 179) (len := 2) (j := 6) rfl rfl hk208 (fun lv216 hk217 => ?_)
                    have hk217 : lk lv216 [(6, .int q24), (14, .int (Int32.ofInt 1)), (13, .int (Int32.ofInt 1)), (11, .long q34), (10, .int q24), (0, .ref 69), (1, .int v1), (2, .int v2), (3, .int v3), (4, .int v4), (5, .int v5), (7, .long v7), (9, .int v9)] := hk217
                    refine py_ll (pc := 181) (len := 2) (j := 11) rfl hk217 rfl ?_
                    refine py_stl (pc := 183) (len := 2) (j := 7) rfl rfl hk217 (fun lv218 hk219 => ?_)
                    have hk219 : lk lv218 [(7, .long q34), (6, .int q24), (14, .int (Int32.ofInt 1)), (13, .int (Int32.ofInt 1)), (11, .long q34), (10, .int q24), (0, .ref 69), (1, .int v1), (2, .int v2), (3, .int v3), (4, .int v4), (5, .int v5), (9, .int v9)] := hk219
                    refine py_inc (pc := 185) (len := 3) (j := 9) (n := 1) rfl rfl hk219 rfl (fun lv220 hk221 => ?_)
                    have hk221 : lk lv220 [(9, .int (v9 + Int32.ofInt 1)), (7, .long q34), (6, .int q24), (14, .int (Int32.ofInt 1)), (13, .int (Int32.ofInt 1)), (11, .long q34), (10, .int q24), (0, .ref 69), (1, .int v1), (2, .int v2), (3, .int v3), (4, .int v4), (5, .int v5)] := hk221
                    refine py_its (pc := 188) (pc1 := 46) (lv1 := lv220) (st1 := []) 1 (fun _ _ _ _ => rfl) ?_
                    exact ih q24 q34 (v9 + Int32.ofInt 1) q29.2 lv220 _ hS32 ⟨lk_find hk221 rfl, lk_find hk221 rfl, lk_find hk221 rfl, lk_find hk221 rfl, lk_find hk221 rfl, lk_find hk221 rfl, lk_find hk221 rfl, lk_find hk221 rfl, lk_find hk221 rfl, trivial⟩ h
        | false =>
          have h := cd_f hb33 h
          refine py_if (pc := 83) (len := 3) false rfl hb33 ?_
          refine py_its (pc := 86) (pc1 := 88) (lv1 := lv27) (st1 := [.int (Int8.ofInt (-3)).toInt32]) 1 (fun _ _ _ _ => rfl) ?_
          have h := Option.some.inj h
          subst h
          exact py_ir (pc := 88) (len := 1) (ty := .int) rfl rfl rfl hS32
      | false =>
        have h := cd_f hb23 h
        refine py_if (pc := 58) (len := 3) false rfl hb23 ?_
        refine py_its (pc := 61) (pc1 := 185) (lv1 := lv) (st1 := []) 1 (fun _ _ _ _ => rfl) ?_
        refine py_inc (pc := 185) (len := 3) (j := 9) (n := 1) rfl rfl hk rfl (fun lv222 hk223 => ?_)
        have hk223 : lk lv222 [(9, .int (v9 + Int32.ofInt 1)), (0, .ref 69), (1, .int v1), (2, .int v2), (3, .int v3), (4, .int v4), (5, .int v5), (6, .int v6), (7, .long v7)] := hk223
        refine py_its (pc := 188) (pc1 := 46) (lv1 := lv222) (st1 := []) 1 (fun _ _ _ _ => rfl) ?_
        exact ih v6 v7 (v9 + Int32.ofInt 1) hp lv222 _ hS ⟨lk_find hk223 rfl, lk_find hk223 rfl, lk_find hk223 rfl, lk_find hk223 rfl, lk_find hk223 rfl, lk_find hk223 rfl, lk_find hk223 rfl, lk_find hk223 rfl, lk_find hk223 rfl, trivial⟩ h
noncomputable def fn_M_best (a1 : Int32) (a2 : Int32) (a3 : Int32) (a4 : Int32) (a5 : Int32) (hp : px_H) : Option (Int32 × px_H) :=
  sb (wF hp 69 0 (.int (Int32.ofInt 0))) fun h1 =>
  (fn_M_isPacking a1 a2 a4 h1).bind fun q3 =>
  bif px_cmp .eq q3 0 then
    some ((Int32.ofInt (-1)), h1)
  else
    (fn_M_isPerson a3 h1).bind fun q7 =>
    bif px_cmp .eq q7 0 then
      some ((Int32.ofInt (-1)), h1)
    else
      bif px_cmp .ne (sx_in a5.toInt64 (Int64.ofNat 0) (Int64.ofNat 1)) 0 then
        fn_M_best_L46 a1 a2 a3 a4 a5 fu (Int32.ofInt (-1)) (Int64.ofNat 0) (Int32.ofInt 0) h1
      else
        some ((Int32.ofInt (-1)), h1)
theorem fx_M_best {a1 : Int32} {a2 : Int32} {a3 : Int32} {a4 : Int32} {a5 : Int32} {hp : px_H} {res : Int32 × px_H} (hS : oS hp) (h : fn_M_best a1 a2 a3 a4 a5 hp = some res) : px_C nm_T nm_P mi_M_best [.ref 69, .int a1, .int a2, .int a3, .int a4, .int a5] hp (some (.int res.1)) res.2 ∧ oS res.2 := by
  unfold fn_M_best at h
  refine py_C (M := mm_M_best) rfl (Nat.le_of_ble_eq_true rfl) ?_
  show px_Y mm_M_best 0 [(0, .ref 69), (1, .int a1), (2, .int a2), (3, .int a3), (4, .int a4), (5, .int a5)] [] hp _ _
  refine py_its (pc := 0) (pc1 := 2) (lv1 := [(0, .ref 69), (1, .int a1), (2, .int a2), (3, .int a3), (4, .int a4), (5, .int a5)]) (st1 := [.int (Int32.ofInt 0), .ref 69]) 2 (fun _ _ _ _ => rfl) ?_
  have h := sb_e h
  refine py_pI (pc := 2) (len := 3) (cs := [69]) rfl rfl rfl List.mem_cons_self hS rfl rfl rfl rfl ?_
  have hS2 : oS (wF hp 69 0 (.int (Int32.ofInt 0))) := oS_wI (cs := [69]) (ci := 9) rfl List.mem_cons_self hS
  generalize (wF hp 69 0 (.int (Int32.ofInt 0))) = h1 at h hS2 ⊢
  refine py_its (pc := 5) (pc1 := 10) (lv1 := [(0, .ref 69), (1, .int a1), (2, .int a2), (3, .int a3), (4, .int a4), (5, .int a5)]) (st1 := [.int a4, .int a2, .int a1, .ref 69]) 4 (fun _ _ _ _ => rfl) ?_
  obtain ⟨q3, hq4, h⟩ := bd_e h
  have hC5 := (fx_M_isPacking hS2 hq4).1
  refine py_vi (pc := 10) (mi := mi_M_isPacking) (cs := [69]) (N := mm_M_isPacking) rfl rfl rfl rfl List.mem_cons_self hS2 rfl (Nat.le_of_ble_eq_true rfl) (Nat.le_of_ble_eq_true rfl) rfl rfl hC5 ?_
  show px_Y mm_M_best 13 [(0, .ref 69), (1, .int a1), (2, .int a2), (3, .int a3), (4, .int a4), (5, .int a5)] [.int q3] h1 _ _
  cases hb6 : px_cmp .eq q3 0 with
  | true =>
    have h := cd_t hb6 h
    refine py_if (pc := 13) (len := 3) true rfl hb6 ?_
    refine py_its (pc := 35) (pc1 := 36) (lv1 := [(0, .ref 69), (1, .int a1), (2, .int a2), (3, .int a3), (4, .int a4), (5, .int a5)]) (st1 := [.int (Int32.ofInt (-1))]) 1 (fun _ _ _ _ => rfl) ?_
    have h := Option.some.inj h
    subst h
    exact py_ir (pc := 36) (len := 1) (ty := .int) rfl rfl rfl hS2
  | false =>
    have h := cd_f hb6 h
    refine py_if (pc := 13) (len := 3) false rfl hb6 ?_
    refine py_its (pc := 16) (pc1 := 18) (lv1 := [(0, .ref 69), (1, .int a1), (2, .int a2), (3, .int a3), (4, .int a4), (5, .int a5)]) (st1 := [.int a3, .ref 69]) 2 (fun _ _ _ _ => rfl) ?_
    obtain ⟨q7, hq8, h⟩ := bd_e h
    have hC9 := (fx_M_isPerson hS2 hq8).1
    refine py_vi (pc := 18) (mi := mi_M_isPerson) (cs := [69]) (N := mm_M_isPerson) rfl rfl rfl rfl List.mem_cons_self hS2 rfl (Nat.le_of_ble_eq_true rfl) (Nat.le_of_ble_eq_true rfl) rfl rfl hC9 ?_
    show px_Y mm_M_best 21 [(0, .ref 69), (1, .int a1), (2, .int a2), (3, .int a3), (4, .int a4), (5, .int a5)] [.int q7] h1 _ _
    cases hb10 : px_cmp .eq q7 0 with
    | true =>
      have h := cd_t hb10 h
      refine py_if (pc := 21) (len := 3) true rfl hb10 ?_
      refine py_its (pc := 35) (pc1 := 36) (lv1 := [(0, .ref 69), (1, .int a1), (2, .int a2), (3, .int a3), (4, .int a4), (5, .int a5)]) (st1 := [.int (Int32.ofInt (-1))]) 1 (fun _ _ _ _ => rfl) ?_
      have h := Option.some.inj h
      subst h
      exact py_ir (pc := 36) (len := 1) (ty := .int) rfl rfl rfl hS2
    | false =>
      have h := cd_f hb10 h
      refine py_if (pc := 21) (len := 3) false rfl hb10 ?_
      refine py_its (pc := 24) (pc1 := 29) (lv1 := [(0, .ref 69), (1, .int a1), (2, .int a2), (3, .int a3), (4, .int a4), (5, .int a5)]) (st1 := [.long (Int64.ofNat 1), .long (Int64.ofNat 0), .long a5.toInt64]) 4 (fun _ _ _ _ => rfl) ?_
      refine py_st (pc := 29) (mi := mi_M_in) (N := mm_M_in) rfl rfl rfl (Nat.le_of_ble_eq_true rfl) (Nat.le_of_ble_eq_true rfl) rfl rfl (sx_in_C a5.toInt64 (Int64.ofNat 0) (Int64.ofNat 1) h1) ?_
      show px_Y mm_M_best 32 [(0, .ref 69), (1, .int a1), (2, .int a2), (3, .int a3), (4, .int a4), (5, .int a5)] [.int (sx_in a5.toInt64 (Int64.ofNat 0) (Int64.ofNat 1))] h1 _ _
      cases hb11 : px_cmp .ne (sx_in a5.toInt64 (Int64.ofNat 0) (Int64.ofNat 1)) 0 with
      | true =>
        have h := cd_t hb11 h
        refine py_if (pc := 32) (len := 3) true rfl hb11 ?_
        refine py_its (pc := 37) (pc1 := 46) (lv1 := [(9, .int (Int32.ofInt 0)), (7, .long (Int64.ofNat 0)), (6, .int (Int32.ofInt (-1))), (0, .ref 69), (1, .int a1), (2, .int a2), (3, .int a3), (4, .int a4), (5, .int a5)]) (st1 := []) 6 (fun _ _ _ _ => rfl) ?_
        exact fl_M_best_L46 fu (Int32.ofInt (-1)) (Int64.ofNat 0) (Int32.ofInt 0) h1 [(9, .int (Int32.ofInt 0)), (7, .long (Int64.ofNat 0)), (6, .int (Int32.ofInt (-1))), (0, .ref 69), (1, .int a1), (2, .int a2), (3, .int a3), (4, .int a4), (5, .int a5)] _ hS2 ⟨rfl, rfl, rfl, rfl, rfl, rfl, rfl, rfl, rfl, trivial⟩ h
      | false =>
        have h := cd_f hb11 h
        refine py_if (pc := 32) (len := 3) false rfl hb11 ?_
        refine py_its (pc := 35) (pc1 := 36) (lv1 := [(0, .ref 69), (1, .int a1), (2, .int a2), (3, .int a3), (4, .int a4), (5, .int a5)]) (st1 := [.int (Int32.ofInt (-1))]) 1 (fun _ _ _ _ => rfl) ?_
        have h := Option.some.inj h
        subst h
        exact py_ir (pc := 36) (len := 1) (ty := .int) rfl rfl rfl hS2
/-! M_never -/
noncomputable def fb_M_never_L88 (v1 : Int32) (v2 : Int32) (v3 : Int32) (v4 : Int32) (kc : Int32 → Int32 → Int32 → px_H → Option (Int32 × px_H)) (rc : Int32 → Int32 → Int32 → Int32 → Int32 → Int32 → px_H → Option (Int32 × px_H)) (v5 : Int32) (v6 : Int32) (v7 : Int32) (v8 : Int32) (v9 : Int32) (v10 : Int32) (hp : px_H) : Option (Int32 × px_H) :=
  bif px_cmp .ge v10 (aI hp 96 (Int32.ofInt 2).toNatClampNeg) then
    bif px_cmp .eq v9 0 then
      kc v5 v6 (v7 + Int32.ofInt 1) hp
    else
      (fn_M_someBits hp).bind fun q37 =>
      (fn_M_housed v3 hp).bind fun q40 =>
      bif px_cmp .ne (q37 &&& q40) 0 then
        kc v5 v6 (v7 + Int32.ofInt 1) hp
      else
        bif px_cmp .lt v5 0 then
          kc v8 (v6 + Int32.ofInt 1) (v7 + Int32.ofInt 1) hp
        else
          bif px_cmp .le (nm_bc v8) (nm_bc v5) then
            kc v5 (v6 + Int32.ofInt 1) (v7 + Int32.ofInt 1) hp
          else
            kc v8 (v6 + Int32.ofInt 1) (v7 + Int32.ofInt 1) hp
  else
    bif px_cmp .ne v9 0 then
      rc v5 v6 v7 v8 (Int32.ofInt 1) (v10 + Int32.ofInt 1) hp
    else
      bif px_inR v10 3001 then
      bif px_inR v4 6 then
      bif px_cmp .ne (nm_bc (aI hp 98 v10.toNatClampNeg)) (aI hp 80 v4.toNatClampNeg) then
        rc v5 v6 v7 v8 (Int32.ofInt 0) (v10 + Int32.ofInt 1) hp
      else
        rc v5 v6 v7 v8 (Int32.ofInt 1) (v10 + Int32.ofInt 1) hp
      else none
      else none
noncomputable def fn_M_never_L88 (v1 : Int32) (v2 : Int32) (v3 : Int32) (v4 : Int32) (kc : Int32 → Int32 → Int32 → px_H → Option (Int32 × px_H)) : Nat → Int32 → Int32 → Int32 → Int32 → Int32 → Int32 → px_H → Option (Int32 × px_H)
  | 0 => fun _ _ _ _ _ _ _ => none
  | n + 1 => fb_M_never_L88 v1 v2 v3 v4 kc (fn_M_never_L88 v1 v2 v3 v4 kc n)
theorem fl_M_never_L88 {v1 : Int32} {v2 : Int32} {v3 : Int32} {v4 : Int32} {kc : Int32 → Int32 → Int32 → px_H → Option (Int32 × px_H)} (hkc : ∀ (v5 : Int32) (v6 : Int32) (v7 : Int32) (hp : px_H) (lv : List (Nat × Value)) (res : Int32 × px_H), oS hp → lk lv [(0, .ref 69), (1, .int v1), (2, .int v2), (3, .int v3), (4, .int v4), (5, .int v5), (6, .int v6), (7, .int v7)] → kc v5 v6 v7 hp = some res → px_Y mm_M_never 39 lv [] hp (some (.int res.1)) res.2) : ∀ (n : Nat) (v5 : Int32) (v6 : Int32) (v7 : Int32) (v8 : Int32) (v9 : Int32) (v10 : Int32) (hp : px_H) (lv : List (Nat × Value)) (res : Int32 × px_H), oS hp → lk lv [(0, .ref 69), (1, .int v1), (2, .int v2), (3, .int v3), (4, .int v4), (5, .int v5), (6, .int v6), (7, .int v7), (8, .int v8), (9, .int v9), (10, .int v10)] → fn_M_never_L88 v1 v2 v3 v4 kc n v5 v6 v7 v8 v9 v10 hp = some res → px_Y mm_M_never 88 lv [] hp (some (.int res.1)) res.2 := by
  intro n
  induction n with
  | zero =>
    intro v5 v6 v7 v8 v9 v10 hp lv res hS hk h
    cases h
  | succ n ih =>
    intro v5 v6 v7 v8 v9 v10 hp lv res hS hk h
    have h : fb_M_never_L88 v1 v2 v3 v4 kc (fn_M_never_L88 v1 v2 v3 v4 kc n) v5 v6 v7 v8 v9 v10 hp = some res := h
    unfold fb_M_never_L88 at h
    refine py_il (pc := 88) (len := 2) (j := 10) rfl hk rfl ?_
    refine py_aln (pc := 90) (len := 1) (j := 0) rfl hk rfl ?_
    refine py_g1 96 (pc := 91) (len := 3) (cs := [69]) rfl rfl rfl List.mem_cons_self hS ?_
    refine py_its (pc := 94) (pc1 := 95) (lv1 := lv) (st1 := [.int (Int32.ofInt 2), .ref 96, .int v10]) 1 (fun _ _ _ _ => rfl) ?_
    refine py_ai (pc := 95) (len := 1) (cs := [96]) (t := 53) (n := 3) rfl rfl rfl rfl List.mem_cons_self hS ?_
    cases hb33 : px_cmp .ge v10 (aI hp 96 (Int32.ofInt 2).toNatClampNeg) with
    | true =>
      have h := cd_t hb33 h
      refine py_ic (pc := 96) (len := 3) true rfl hb33 ?_
      refine py_il (pc := 137) (len := 2) (j := 9) rfl hk rfl ?_
      cases hb34 : px_cmp .eq v9 0 with
      | true =>
        have h := cd_t hb34 h
        refine py_if (pc := 139) (len := 3) true rfl hb34 ?_
        refine py_inc (pc := 185) (len := 3) (j := 7) (n := 1) rfl rfl hk rfl (fun lv35 hk36 => ?_)
        have hk36 : lk lv35 [(7, .int (v7 + Int32.ofInt 1)), (0, .ref 69), (1, .int v1), (2, .int v2), (3, .int v3), (4, .int v4), (5, .int v5), (6, .int v6), (8, .int v8), (9, .int v9), (10, .int v10)] := hk36
        refine py_its (pc := 188) (pc1 := 39) (lv1 := lv35) (st1 := []) 1 (fun _ _ _ _ => rfl) ?_
        exact hkc v5 v6 (v7 + Int32.ofInt 1) hp lv35 _ hS ⟨lk_find hk36 rfl, lk_find hk36 rfl, lk_find hk36 rfl, lk_find hk36 rfl, lk_find hk36 rfl, lk_find hk36 rfl, lk_find hk36 rfl, lk_find hk36 rfl, trivial⟩ h
      | false =>
        have h := cd_f hb34 h
        refine py_if (pc := 139) (len := 3) false rfl hb34 ?_
        refine py_aln (pc := 142) (len := 1) (j := 0) rfl hk rfl ?_
        obtain ⟨q37, hq38, h⟩ := bd_e h
        have hC39 := (fx_M_someBits hS hq38).1
        refine py_vi (pc := 143) (mi := mi_M_someBits) (cs := [69]) (N := mm_M_someBits) rfl rfl rfl rfl List.mem_cons_self hS rfl (Nat.le_of_ble_eq_true rfl) (Nat.le_of_ble_eq_true rfl) rfl rfl hC39 ?_
        show px_Y mm_M_never 146 lv [.int q37] hp _ _
        refine py_aln (pc := 146) (len := 1) (j := 0) rfl hk rfl ?_
        refine py_iln (pc := 147) (len := 1) (j := 3) rfl hk rfl ?_
        obtain ⟨q40, hq41, h⟩ := bd_e h
        have hC42 := (fx_M_housed hS hq41).1
        refine py_vi (pc := 148) (mi := mi_M_housed) (cs := [69]) (N := mm_M_housed) rfl rfl rfl rfl List.mem_cons_self hS rfl (Nat.le_of_ble_eq_true rfl) (Nat.le_of_ble_eq_true rfl) rfl rfl hC42 ?_
        show px_Y mm_M_never 151 lv [.int q40, .int q37] hp _ _
        refine py_its (pc := 151) (pc1 := 152) (lv1 := lv) (st1 := [.int (q37 &&& q40)]) 1 (fun _ _ _ _ => rfl) ?_
        cases hb43 : px_cmp .ne (q37 &&& q40) 0 with
        | true =>
          have h := cd_t hb43 h
          refine py_if (pc := 152) (len := 3) true rfl hb43 ?_
          refine py_inc (pc := 185) (len := 3) (j := 7) (n := 1) rfl rfl hk rfl (fun lv44 hk45 => ?_)
          have hk45 : lk lv44 [(7, .int (v7 + Int32.ofInt 1)), (0, .ref 69), (1, .int v1), (2, .int v2), (3, .int v3), (4, .int v4), (5, .int v5), (6, .int v6), (8, .int v8), (9, .int v9), (10, .int v10)] := hk45
          refine py_its (pc := 188) (pc1 := 39) (lv1 := lv44) (st1 := []) 1 (fun _ _ _ _ => rfl) ?_
          exact hkc v5 v6 (v7 + Int32.ofInt 1) hp lv44 _ hS ⟨lk_find hk45 rfl, lk_find hk45 rfl, lk_find hk45 rfl, lk_find hk45 rfl, lk_find hk45 rfl, lk_find hk45 rfl, lk_find hk45 rfl, lk_find hk45 rfl, trivial⟩ h
        | false =>
          have h := cd_f hb43 h
          refine py_if (pc := 152) (len := 3) false rfl hb43 ?_
          refine py_inc (pc := 155) (len := 3) (j := 6) (n := 1) rfl rfl hk rfl (fun lv46 hk47 => ?_)
          have hk47 : lk lv46 [(6, .int (v6 + Int32.ofInt 1)), (0, .ref 69), (1, .int v1), (2, .int v2), (3, .int v3), (4, .int v4), (5, .int v5), (7, .int v7), (8, .int v8), (9, .int v9), (10, .int v10)] := hk47
          refine py_il (pc := 158) (len := 2) (j := 5) rfl hk47 rfl ?_
          cases hb48 : px_cmp .lt v5 0 with
          | true =>
            have h := cd_t hb48 h
            refine py_if (pc := 160) (len := 3) true rfl hb48 ?_
            refine py_il (pc := 176) (len := 2) (j := 8) rfl hk47 rfl ?_
            refine py_its (pc := 178) (pc1 := 183) (lv1 := lv46) (st1 := [.int v8]) 1 (fun _ _ _ _ => rfl) ?_
            refine py_sti (pc := 183) (len := 2) (j := 5) rfl rfl hk47 (fun lv49 hk50 => ?_)
            have hk50 : lk lv49 [(5, .int v8), (6, .int (v6 + Int32.ofInt 1)), (0, .ref 69), (1, .int v1), (2, .int v2), (3, .int v3), (4, .int v4), (7, .int v7), (8, .int v8), (9, .int v9), (10, .int v10)] := hk50
            refine py_inc (pc := 185) (len := 3) (j := 7) (n := 1) rfl rfl hk50 rfl (fun lv51 hk52 => ?_)
            have hk52 : lk lv51 [(7, .int (v7 + Int32.ofInt 1)), (5, .int v8), (6, .int (v6 + Int32.ofInt 1)), (0, .ref 69), (1, .int v1), (2, .int v2), (3, .int v3), (4, .int v4), (8, .int v8), (9, .int v9), (10, .int v10)] := hk52
            refine py_its (pc := 188) (pc1 := 39) (lv1 := lv51) (st1 := []) 1 (fun _ _ _ _ => rfl) ?_
            exact hkc v8 (v6 + Int32.ofInt 1) (v7 + Int32.ofInt 1) hp lv51 _ hS ⟨lk_find hk52 rfl, lk_find hk52 rfl, lk_find hk52 rfl, lk_find hk52 rfl, lk_find hk52 rfl, lk_find hk52 rfl, lk_find hk52 rfl, lk_find hk52 rfl, trivial⟩ h
          | false =>
            have h := cd_f hb48 h
            refine py_if (pc := 160) (len := 3) false rfl hb48 ?_
            refine py_il (pc := 163) (len := 2) (j := 8) rfl hk47 rfl ?_
            refine py_st (pc := 165) (mi := mi_I_bitCount) (N := mm_I_bitCount) rfl rfl rfl (Nat.le_of_ble_eq_true rfl) (Nat.le_of_ble_eq_true rfl) rfl rfl (nm_bc_C v8 hp) ?_
            show px_Y mm_M_never 168 lv46 [.int (nm_bc v8)] hp _ _
            refine py_il (pc := 168) (len := 2) (j := 5) rfl hk47 rfl ?_
            refine py_st (pc := 170) (mi := mi_I_bitCount) (N := mm_I_bitCount) rfl rfl rfl (Nat.le_of_ble_eq_true rfl) (Nat.le_of_ble_eq_true rfl) rfl rfl (nm_bc_C v5 hp) ?_
            show px_Y mm_M_never 173 lv46 [.int (nm_bc v5), .int (nm_bc v8)] hp _ _
            cases hb53 : px_cmp .le (nm_bc v8) (nm_bc v5) with
            | true =>
              have h := cd_t hb53 h
              refine py_ic (pc := 173) (len := 3) true rfl hb53 ?_
              refine py_il (pc := 181) (len := 2) (j := 5) rfl hk47 rfl ?_
              refine py_sti (pc := 183) (len := 2) (j := 5) rfl rfl hk47 (fun lv54 hk55 => ?_)
              have hk55 : lk lv54 [(5, .int v5), (6, .int (v6 + Int32.ofInt 1)), (0, .ref 69), (1, .int v1), (2, .int v2), (3, .int v3), (4, .int v4), (7, .int v7), (8, .int v8), (9, .int v9), (10, .int v10)] := hk55
              refine py_inc (pc := 185) (len := 3) (j := 7) (n := 1) rfl rfl hk55 rfl (fun lv56 hk57 => ?_)
              have hk57 : lk lv56 [(7, .int (v7 + Int32.ofInt 1)), (5, .int v5), (6, .int (v6 + Int32.ofInt 1)), (0, .ref 69), (1, .int v1), (2, .int v2), (3, .int v3), (4, .int v4), (8, .int v8), (9, .int v9), (10, .int v10)] := hk57
              refine py_its (pc := 188) (pc1 := 39) (lv1 := lv56) (st1 := []) 1 (fun _ _ _ _ => rfl) ?_
              exact hkc v5 (v6 + Int32.ofInt 1) (v7 + Int32.ofInt 1) hp lv56 _ hS ⟨lk_find hk57 rfl, lk_find hk57 rfl, lk_find hk57 rfl, lk_find hk57 rfl, lk_find hk57 rfl, lk_find hk57 rfl, lk_find hk57 rfl, lk_find hk57 rfl, trivial⟩ h
            | false =>
              have h := cd_f hb53 h
              refine py_ic (pc := 173) (len := 3) false rfl hb53 ?_
              refine py_il (pc := 176) (len := 2) (j := 8) rfl hk47 rfl ?_
              refine py_its (pc := 178) (pc1 := 183) (lv1 := lv46) (st1 := [.int v8]) 1 (fun _ _ _ _ => rfl) ?_
              refine py_sti (pc := 183) (len := 2) (j := 5) rfl rfl hk47 (fun lv58 hk59 => ?_)
              have hk59 : lk lv58 [(5, .int v8), (6, .int (v6 + Int32.ofInt 1)), (0, .ref 69), (1, .int v1), (2, .int v2), (3, .int v3), (4, .int v4), (7, .int v7), (8, .int v8), (9, .int v9), (10, .int v10)] := hk59
              refine py_inc (pc := 185) (len := 3) (j := 7) (n := 1) rfl rfl hk59 rfl (fun lv60 hk61 => ?_)
              have hk61 : lk lv60 [(7, .int (v7 + Int32.ofInt 1)), (5, .int v8), (6, .int (v6 + Int32.ofInt 1)), (0, .ref 69), (1, .int v1), (2, .int v2), (3, .int v3), (4, .int v4), (8, .int v8), (9, .int v9), (10, .int v10)] := hk61
              refine py_its (pc := 188) (pc1 := 39) (lv1 := lv60) (st1 := []) 1 (fun _ _ _ _ => rfl) ?_
              exact hkc v8 (v6 + Int32.ofInt 1) (v7 + Int32.ofInt 1) hp lv60 _ hS ⟨lk_find hk61 rfl, lk_find hk61 rfl, lk_find hk61 rfl, lk_find hk61 rfl, lk_find hk61 rfl, lk_find hk61 rfl, lk_find hk61 rfl, lk_find hk61 rfl, trivial⟩ h
    | false =>
      have h := cd_f hb33 h
      refine py_ic (pc := 96) (len := 3) false rfl hb33 ?_
      refine py_il (pc := 99) (len := 2) (j := 9) rfl hk rfl ?_
      cases hb62 : px_cmp .ne v9 0 with
      | true =>
        have h := cd_t hb62 h
        refine py_if (pc := 101) (len := 3) true rfl hb62 ?_
        refine py_its (pc := 124) (pc1 := 129) (lv1 := lv) (st1 := [.int (Int32.ofInt 1)]) 2 (fun _ _ _ _ => rfl) ?_
        refine py_sti (pc := 129) (len := 2) (j := 9) rfl rfl hk (fun lv63 hk64 => ?_)
        have hk64 : lk lv63 [(9, .int (Int32.ofInt 1)), (0, .ref 69), (1, .int v1), (2, .int v2), (3, .int v3), (4, .int v4), (5, .int v5), (6, .int v6), (7, .int v7), (8, .int v8), (10, .int v10)] := hk64
        refine py_inc (pc := 131) (len := 3) (j := 10) (n := 1) rfl rfl hk64 rfl (fun lv65 hk66 => ?_)
        have hk66 : lk lv65 [(10, .int (v10 + Int32.ofInt 1)), (9, .int (Int32.ofInt 1)), (0, .ref 69), (1, .int v1), (2, .int v2), (3, .int v3), (4, .int v4), (5, .int v5), (6, .int v6), (7, .int v7), (8, .int v8)] := hk66
        refine py_its (pc := 134) (pc1 := 88) (lv1 := lv65) (st1 := []) 1 (fun _ _ _ _ => rfl) ?_
        exact ih v5 v6 v7 v8 (Int32.ofInt 1) (v10 + Int32.ofInt 1) hp lv65 _ hS ⟨lk_find hk66 rfl, lk_find hk66 rfl, lk_find hk66 rfl, lk_find hk66 rfl, lk_find hk66 rfl, lk_find hk66 rfl, lk_find hk66 rfl, lk_find hk66 rfl, lk_find hk66 rfl, lk_find hk66 rfl, lk_find hk66 rfl, trivial⟩ h
      | false =>
        have h := cd_f hb62 h
        refine py_if (pc := 101) (len := 3) false rfl hb62 ?_
        refine py_aln (pc := 104) (len := 1) (j := 0) rfl hk rfl ?_
        refine py_g1 98 (pc := 105) (len := 3) (cs := [69]) rfl rfl rfl List.mem_cons_self hS ?_
        refine py_il (pc := 108) (len := 2) (j := 10) rfl hk rfl ?_
        obtain ⟨hi67, h⟩ := cd_n h
        refine py_ai (pc := 110) (len := 1) (cs := [98]) (t := 55) (n := 3001) rfl rfl rfl hi67 List.mem_cons_self hS ?_
        refine py_st (pc := 111) (mi := mi_I_bitCount) (N := mm_I_bitCount) rfl rfl rfl (Nat.le_of_ble_eq_true rfl) (Nat.le_of_ble_eq_true rfl) rfl rfl (nm_bc_C (aI hp 98 v10.toNatClampNeg) hp) ?_
        show px_Y mm_M_never 114 lv [.int (nm_bc (aI hp 98 v10.toNatClampNeg))] hp _ _
        refine py_aln (pc := 114) (len := 1) (j := 0) rfl hk rfl ?_
        refine py_g1 80 (pc := 115) (len := 3) (cs := [69]) rfl rfl rfl List.mem_cons_self hS ?_
        refine py_il (pc := 118) (len := 2) (j := 4) rfl hk rfl ?_
        obtain ⟨hi68, h⟩ := cd_n h
        refine py_ai (pc := 120) (len := 1) (cs := [80]) (t := 37) (n := 6) rfl rfl rfl hi68 List.mem_cons_self hS ?_
        cases hb69 : px_cmp .ne (nm_bc (aI hp 98 v10.toNatClampNeg)) (aI hp 80 v4.toNatClampNeg) with
        | true =>
          have h := cd_t hb69 h
          refine py_ic (pc := 121) (len := 3) true rfl hb69 ?_
          refine py_its (pc := 128) (pc1 := 129) (lv1 := lv) (st1 := [.int (Int32.ofInt 0)]) 1 (fun _ _ _ _ => rfl) ?_
          refine py_sti (pc := 129) (len := 2) (j := 9) rfl rfl hk (fun lv70 hk71 => ?_)
          have hk71 : lk lv70 [(9, .int (Int32.ofInt 0)), (0, .ref 69), (1, .int v1), (2, .int v2), (3, .int v3), (4, .int v4), (5, .int v5), (6, .int v6), (7, .int v7), (8, .int v8), (10, .int v10)] := hk71
          refine py_inc (pc := 131) (len := 3) (j := 10) (n := 1) rfl rfl hk71 rfl (fun lv72 hk73 => ?_)
          have hk73 : lk lv72 [(10, .int (v10 + Int32.ofInt 1)), (9, .int (Int32.ofInt 0)), (0, .ref 69), (1, .int v1), (2, .int v2), (3, .int v3), (4, .int v4), (5, .int v5), (6, .int v6), (7, .int v7), (8, .int v8)] := hk73
          refine py_its (pc := 134) (pc1 := 88) (lv1 := lv72) (st1 := []) 1 (fun _ _ _ _ => rfl) ?_
          exact ih v5 v6 v7 v8 (Int32.ofInt 0) (v10 + Int32.ofInt 1) hp lv72 _ hS ⟨lk_find hk73 rfl, lk_find hk73 rfl, lk_find hk73 rfl, lk_find hk73 rfl, lk_find hk73 rfl, lk_find hk73 rfl, lk_find hk73 rfl, lk_find hk73 rfl, lk_find hk73 rfl, lk_find hk73 rfl, lk_find hk73 rfl, trivial⟩ h
        | false =>
          have h := cd_f hb69 h
          refine py_ic (pc := 121) (len := 3) false rfl hb69 ?_
          refine py_its (pc := 124) (pc1 := 129) (lv1 := lv) (st1 := [.int (Int32.ofInt 1)]) 2 (fun _ _ _ _ => rfl) ?_
          refine py_sti (pc := 129) (len := 2) (j := 9) rfl rfl hk (fun lv74 hk75 => ?_)
          have hk75 : lk lv74 [(9, .int (Int32.ofInt 1)), (0, .ref 69), (1, .int v1), (2, .int v2), (3, .int v3), (4, .int v4), (5, .int v5), (6, .int v6), (7, .int v7), (8, .int v8), (10, .int v10)] := hk75
          refine py_inc (pc := 131) (len := 3) (j := 10) (n := 1) rfl rfl hk75 rfl (fun lv76 hk77 => ?_)
          have hk77 : lk lv76 [(10, .int (v10 + Int32.ofInt 1)), (9, .int (Int32.ofInt 1)), (0, .ref 69), (1, .int v1), (2, .int v2), (3, .int v3), (4, .int v4), (5, .int v5), (6, .int v6), (7, .int v7), (8, .int v8)] := hk77
          refine py_its (pc := 134) (pc1 := 88) (lv1 := lv76) (st1 := []) 1 (fun _ _ _ _ => rfl) ?_
          exact ih v5 v6 v7 v8 (Int32.ofInt 1) (v10 + Int32.ofInt 1) hp lv76 _ hS ⟨lk_find hk77 rfl, lk_find hk77 rfl, lk_find hk77 rfl, lk_find hk77 rfl, lk_find hk77 rfl, lk_find hk77 rfl, lk_find hk77 rfl, lk_find hk77 rfl, lk_find hk77 rfl, lk_find hk77 rfl, lk_find hk77 rfl, trivial⟩ h
noncomputable def fb_M_never_L39 (v1 : Int32) (v2 : Int32) (v3 : Int32) (v4 : Int32) (rc : Int32 → Int32 → Int32 → px_H → Option (Int32 × px_H)) (v5 : Int32) (v6 : Int32) (v7 : Int32) (hp : px_H) : Option (Int32 × px_H) :=
  bif px_cmp .gt v7 v2 then
    sb (wF hp 69 1 (.int (Int32.ofInt 0))) fun h9 =>
    bif px_cmp .lt v5 0 then
      some (v6, h9)
    else
      (fn_M_enters v5.toInt64 h9).bind fun q12 =>
      some (v6, q12)
  else
    bif px_cmp .eq (v7 &&& (v2 ^^^ (Int32.ofInt (-1)))) 0 then
      (fn_M_packing v1 v2 v7 hp).bind fun q17 =>
      (fn_M_tries v1 q17 v4 hp).bind fun q22 =>
      bif px_cmp .ne q22.1 0 then
        fn_M_never_L88 v1 v2 v3 v4 rc fu v5 v6 v7 q17 (Int32.ofInt 0) (Int32.ofInt 0) q22.2
      else
        some ((Int8.ofInt (-3)).toInt32, q22.2)
    else
      rc v5 v6 (v7 + Int32.ofInt 1) hp
noncomputable def fn_M_never_L39 (v1 : Int32) (v2 : Int32) (v3 : Int32) (v4 : Int32) : Nat → Int32 → Int32 → Int32 → px_H → Option (Int32 × px_H)
  | 0 => fun _ _ _ _ => none
  | n + 1 => fb_M_never_L39 v1 v2 v3 v4 (fn_M_never_L39 v1 v2 v3 v4 n)
theorem fl_M_never_L39 {v1 : Int32} {v2 : Int32} {v3 : Int32} {v4 : Int32}  : ∀ (n : Nat) (v5 : Int32) (v6 : Int32) (v7 : Int32) (hp : px_H) (lv : List (Nat × Value)) (res : Int32 × px_H), oS hp → lk lv [(0, .ref 69), (1, .int v1), (2, .int v2), (3, .int v3), (4, .int v4), (5, .int v5), (6, .int v6), (7, .int v7)] → fn_M_never_L39 v1 v2 v3 v4 n v5 v6 v7 hp = some res → px_Y mm_M_never 39 lv [] hp (some (.int res.1)) res.2 := by
  intro n
  induction n with
  | zero =>
    intro v5 v6 v7 hp lv res hS hk h
    cases h
  | succ n ih =>
    intro v5 v6 v7 hp lv res hS hk h
    have h : fb_M_never_L39 v1 v2 v3 v4 (fn_M_never_L39 v1 v2 v3 v4 n) v5 v6 v7 hp = some res := h
    unfold fb_M_never_L39 at h
    refine py_il (pc := 39) (len := 2) (j := 7) rfl hk rfl ?_
    refine py_iln (pc := 41) (len := 1) (j := 2) rfl hk rfl ?_
    cases hb8 : px_cmp .gt v7 v2 with
    | true =>
      have h := cd_t hb8 h
      refine py_ic (pc := 42) (len := 3) true rfl hb8 ?_
      refine py_aln (pc := 191) (len := 1) (j := 0) rfl hk rfl ?_
      refine py_its (pc := 192) (pc1 := 193) (lv1 := lv) (st1 := [.int (Int32.ofInt 0), .ref 69]) 1 (fun _ _ _ _ => rfl) ?_
      have h := sb_e h
      refine py_pI (pc := 193) (len := 3) (cs := [69]) rfl rfl rfl List.mem_cons_self hS rfl rfl rfl rfl ?_
      have hS10 : oS (wF hp 69 1 (.int (Int32.ofInt 0))) := oS_wI (cs := [69]) (ci := 9) rfl List.mem_cons_self hS
      generalize (wF hp 69 1 (.int (Int32.ofInt 0))) = h9 at h hS10 ⊢
      refine py_il (pc := 196) (len := 2) (j := 5) rfl hk rfl ?_
      cases hb11 : px_cmp .lt v5 0 with
      | true =>
        have h := cd_t hb11 h
        refine py_if (pc := 198) (len := 3) true rfl hb11 ?_
        refine py_il (pc := 208) (len := 2) (j := 6) rfl hk rfl ?_
        have h := Option.some.inj h
        subst h
        exact py_ir (pc := 210) (len := 1) (ty := .int) rfl rfl rfl hS10
      | false =>
        have h := cd_f hb11 h
        refine py_if (pc := 198) (len := 3) false rfl hb11 ?_
        refine py_aln (pc := 201) (len := 1) (j := 0) rfl hk rfl ?_
        refine py_il (pc := 202) (len := 2) (j := 5) rfl hk rfl ?_
        refine py_its (pc := 204) (pc1 := 205) (lv1 := lv) (st1 := [.long v5.toInt64, .ref 69]) 1 (fun _ _ _ _ => rfl) ?_
        obtain ⟨q12, hq13, h⟩ := bd_e h
        obtain ⟨hC14, hS15⟩ := fx_M_enters hS10 hq13
        refine py_vi (pc := 205) (mi := mi_M_enters) (cs := [69]) (N := mm_M_enters) rfl rfl rfl rfl List.mem_cons_self hS10 rfl (Nat.le_of_ble_eq_true rfl) (Nat.le_of_ble_eq_true rfl) rfl rfl hC14 ?_
        show px_Y mm_M_never 208 lv [] q12 _ _
        refine py_il (pc := 208) (len := 2) (j := 6) rfl hk rfl ?_
        have h := Option.some.inj h
        subst h
        exact py_ir (pc := 210) (len := 1) (ty := .int) rfl rfl rfl hS15
    | false =>
      have h := cd_f hb8 h
      refine py_ic (pc := 42) (len := 3) false rfl hb8 ?_
      refine py_il (pc := 45) (len := 2) (j := 7) rfl hk rfl ?_
      refine py_iln (pc := 47) (len := 1) (j := 2) rfl hk rfl ?_
      refine py_its (pc := 48) (pc1 := 51) (lv1 := lv) (st1 := [.int (v7 &&& (v2 ^^^ (Int32.ofInt (-1))))]) 3 (fun _ _ _ _ => rfl) ?_
      cases hb16 : px_cmp .eq (v7 &&& (v2 ^^^ (Int32.ofInt (-1)))) 0 with
      | true =>
        have h := cd_t hb16 h
        refine py_if (pc := 51) (len := 3) true rfl hb16 ?_
        refine py_aln (pc := 57) (len := 1) (j := 0) rfl hk rfl ?_
        refine py_iln (pc := 58) (len := 1) (j := 1) rfl hk rfl ?_
        refine py_iln (pc := 59) (len := 1) (j := 2) rfl hk rfl ?_
        refine py_il (pc := 60) (len := 2) (j := 7) rfl hk rfl ?_
        obtain ⟨q17, hq18, h⟩ := bd_e h
        have hC19 := (fx_M_packing hS hq18).1
        refine py_vi (pc := 62) (mi := mi_M_packing) (cs := [69]) (N := mm_M_packing) rfl rfl rfl rfl List.mem_cons_self hS rfl (Nat.le_of_ble_eq_true rfl) (Nat.le_of_ble_eq_true rfl) rfl rfl hC19 ?_
        show px_Y mm_M_never 65 lv [.int q17] hp _ _
        refine py_sti (pc := 65) (len := 2) (j := 8) rfl rfl hk (fun lv20 hk21 => ?_)
        have hk21 : lk lv20 [(8, .int q17), (0, .ref 69), (1, .int v1), (2, .int v2), (3, .int v3), (4, .int v4), (5, .int v5), (6, .int v6), (7, .int v7)] := hk21
        refine py_aln (pc := 67) (len := 1) (j := 0) rfl hk21 rfl ?_
        refine py_iln (pc := 68) (len := 1) (j := 1) rfl hk21 rfl ?_
        refine py_il (pc := 69) (len := 2) (j := 8) rfl hk21 rfl ?_
        refine py_il (pc := 71) (len := 2) (j := 4) rfl hk21 rfl ?_
        obtain ⟨q22, hq23, h⟩ := bd_e h
        obtain ⟨hC24, hS25⟩ := fx_M_tries hS hq23
        refine py_vi (pc := 73) (mi := mi_M_tries) (cs := [69]) (N := mm_M_tries) rfl rfl rfl rfl List.mem_cons_self hS rfl (Nat.le_of_ble_eq_true rfl) (Nat.le_of_ble_eq_true rfl) rfl rfl hC24 ?_
        show px_Y mm_M_never 76 lv20 [.int q22.1] q22.2 _ _
        cases hb26 : px_cmp .ne q22.1 0 with
        | true =>
          have h := cd_t hb26 h
          refine py_if (pc := 76) (len := 3) true rfl hb26 ?_
          refine py_its (pc := 82) (pc1 := 83) (lv1 := lv20) (st1 := [.int (Int32.ofInt 0)]) 1 (fun _ _ _ _ => rfl) ?_
          refine py_sti (pc := 83) (len := 2) (j := 9) rfl rfl hk21 (fun lv27 hk28 => ?_)
          have hk28 : lk lv27 [(9, .int (Int32.ofInt 0)), (8, .int q17), (0, .ref 69), (1, .int v1), (2, .int v2), (3, .int v3), (4, .int v4), (5, .int v5), (6, .int v6), (7, .int v7)] := hk28
          refine py_its (pc := 85) (pc1 := 86) (lv1 := lv27) (st1 := [.int (Int32.ofInt 0)]) 1 (fun _ _ _ _ => rfl) ?_
          refine py_sti (pc := 86) (len := 2) (j := 10) rfl rfl hk28 (fun lv29 hk30 => ?_)
          have hk30 : lk lv29 [(10, .int (Int32.ofInt 0)), (9, .int (Int32.ofInt 0)), (8, .int q17), (0, .ref 69), (1, .int v1), (2, .int v2), (3, .int v3), (4, .int v4), (5, .int v5), (6, .int v6), (7, .int v7)] := hk30
          exact fl_M_never_L88 ih fu v5 v6 v7 q17 (Int32.ofInt 0) (Int32.ofInt 0) q22.2 lv29 _ hS25 ⟨lk_find hk30 rfl, lk_find hk30 rfl, lk_find hk30 rfl, lk_find hk30 rfl, lk_find hk30 rfl, lk_find hk30 rfl, lk_find hk30 rfl, lk_find hk30 rfl, lk_find hk30 rfl, lk_find hk30 rfl, lk_find hk30 rfl, trivial⟩ h
        | false =>
          have h := cd_f hb26 h
          refine py_if (pc := 76) (len := 3) false rfl hb26 ?_
          refine py_its (pc := 79) (pc1 := 81) (lv1 := lv20) (st1 := [.int (Int8.ofInt (-3)).toInt32]) 1 (fun _ _ _ _ => rfl) ?_
          have h := Option.some.inj h
          subst h
          exact py_ir (pc := 81) (len := 1) (ty := .int) rfl rfl rfl hS25
      | false =>
        have h := cd_f hb16 h
        refine py_if (pc := 51) (len := 3) false rfl hb16 ?_
        refine py_its (pc := 54) (pc1 := 185) (lv1 := lv) (st1 := []) 1 (fun _ _ _ _ => rfl) ?_
        refine py_inc (pc := 185) (len := 3) (j := 7) (n := 1) rfl rfl hk rfl (fun lv31 hk32 => ?_)
        have hk32 : lk lv31 [(7, .int (v7 + Int32.ofInt 1)), (0, .ref 69), (1, .int v1), (2, .int v2), (3, .int v3), (4, .int v4), (5, .int v5), (6, .int v6)] := hk32
        refine py_its (pc := 188) (pc1 := 39) (lv1 := lv31) (st1 := []) 1 (fun _ _ _ _ => rfl) ?_
        exact ih v5 v6 (v7 + Int32.ofInt 1) hp lv31 _ hS ⟨lk_find hk32 rfl, lk_find hk32 rfl, lk_find hk32 rfl, lk_find hk32 rfl, lk_find hk32 rfl, lk_find hk32 rfl, lk_find hk32 rfl, lk_find hk32 rfl, trivial⟩ h
noncomputable def fn_M_never (a1 : Int32) (a2 : Int32) (a3 : Int32) (a4 : Int32) (hp : px_H) : Option (Int32 × px_H) :=
  sb (wF hp 69 0 (.int (Int32.ofInt 0))) fun h1 =>
  (fn_M_isPacking a1 a2 a4 h1).bind fun q3 =>
  bif px_cmp .eq q3 0 then
    some ((Int32.ofInt (-1)), h1)
  else
    bif px_cmp .ne (sx_in a3.toInt64 (Int64.ofNat 0) (Int64.ofInt 5)) 0 then
      fn_M_never_L39 a1 a2 a3 a4 fu (Int32.ofInt (-1)) (Int32.ofInt 0) (Int32.ofInt 0) h1
    else
      some ((Int32.ofInt (-1)), h1)
theorem fx_M_never {a1 : Int32} {a2 : Int32} {a3 : Int32} {a4 : Int32} {hp : px_H} {res : Int32 × px_H} (hS : oS hp) (h : fn_M_never a1 a2 a3 a4 hp = some res) : px_C nm_T nm_P mi_M_never [.ref 69, .int a1, .int a2, .int a3, .int a4] hp (some (.int res.1)) res.2 ∧ oS res.2 := by
  unfold fn_M_never at h
  refine py_C (M := mm_M_never) rfl (Nat.le_of_ble_eq_true rfl) ?_
  show px_Y mm_M_never 0 [(0, .ref 69), (1, .int a1), (2, .int a2), (3, .int a3), (4, .int a4)] [] hp _ _
  refine py_its (pc := 0) (pc1 := 2) (lv1 := [(0, .ref 69), (1, .int a1), (2, .int a2), (3, .int a3), (4, .int a4)]) (st1 := [.int (Int32.ofInt 0), .ref 69]) 2 (fun _ _ _ _ => rfl) ?_
  have h := sb_e h
  refine py_pI (pc := 2) (len := 3) (cs := [69]) rfl rfl rfl List.mem_cons_self hS rfl rfl rfl rfl ?_
  have hS2 : oS (wF hp 69 0 (.int (Int32.ofInt 0))) := oS_wI (cs := [69]) (ci := 9) rfl List.mem_cons_self hS
  generalize (wF hp 69 0 (.int (Int32.ofInt 0))) = h1 at h hS2 ⊢
  refine py_its (pc := 5) (pc1 := 10) (lv1 := [(0, .ref 69), (1, .int a1), (2, .int a2), (3, .int a3), (4, .int a4)]) (st1 := [.int a4, .int a2, .int a1, .ref 69]) 4 (fun _ _ _ _ => rfl) ?_
  obtain ⟨q3, hq4, h⟩ := bd_e h
  have hC5 := (fx_M_isPacking hS2 hq4).1
  refine py_vi (pc := 10) (mi := mi_M_isPacking) (cs := [69]) (N := mm_M_isPacking) rfl rfl rfl rfl List.mem_cons_self hS2 rfl (Nat.le_of_ble_eq_true rfl) (Nat.le_of_ble_eq_true rfl) rfl rfl hC5 ?_
  show px_Y mm_M_never 13 [(0, .ref 69), (1, .int a1), (2, .int a2), (3, .int a3), (4, .int a4)] [.int q3] h1 _ _
  cases hb6 : px_cmp .eq q3 0 with
  | true =>
    have h := cd_t hb6 h
    refine py_if (pc := 13) (len := 3) true rfl hb6 ?_
    refine py_its (pc := 28) (pc1 := 29) (lv1 := [(0, .ref 69), (1, .int a1), (2, .int a2), (3, .int a3), (4, .int a4)]) (st1 := [.int (Int32.ofInt (-1))]) 1 (fun _ _ _ _ => rfl) ?_
    have h := Option.some.inj h
    subst h
    exact py_ir (pc := 29) (len := 1) (ty := .int) rfl rfl rfl hS2
  | false =>
    have h := cd_f hb6 h
    refine py_if (pc := 13) (len := 3) false rfl hb6 ?_
    refine py_its (pc := 16) (pc1 := 22) (lv1 := [(0, .ref 69), (1, .int a1), (2, .int a2), (3, .int a3), (4, .int a4)]) (st1 := [.long (Int64.ofInt 5), .long (Int64.ofNat 0), .long a3.toInt64]) 4 (fun _ _ _ _ => rfl) ?_
    refine py_st (pc := 22) (mi := mi_M_in) (N := mm_M_in) rfl rfl rfl (Nat.le_of_ble_eq_true rfl) (Nat.le_of_ble_eq_true rfl) rfl rfl (sx_in_C a3.toInt64 (Int64.ofNat 0) (Int64.ofInt 5) h1) ?_
    show px_Y mm_M_never 25 [(0, .ref 69), (1, .int a1), (2, .int a2), (3, .int a3), (4, .int a4)] [.int (sx_in a3.toInt64 (Int64.ofNat 0) (Int64.ofInt 5))] h1 _ _
    cases hb7 : px_cmp .ne (sx_in a3.toInt64 (Int64.ofNat 0) (Int64.ofInt 5)) 0 with
    | true =>
      have h := cd_t hb7 h
      refine py_if (pc := 25) (len := 3) true rfl hb7 ?_
      refine py_its (pc := 30) (pc1 := 39) (lv1 := [(7, .int (Int32.ofInt 0)), (6, .int (Int32.ofInt 0)), (5, .int (Int32.ofInt (-1))), (0, .ref 69), (1, .int a1), (2, .int a2), (3, .int a3), (4, .int a4)]) (st1 := []) 6 (fun _ _ _ _ => rfl) ?_
      exact fl_M_never_L39 fu (Int32.ofInt (-1)) (Int32.ofInt 0) (Int32.ofInt 0) h1 [(7, .int (Int32.ofInt 0)), (6, .int (Int32.ofInt 0)), (5, .int (Int32.ofInt (-1))), (0, .ref 69), (1, .int a1), (2, .int a2), (3, .int a3), (4, .int a4)] _ hS2 ⟨rfl, rfl, rfl, rfl, rfl, rfl, rfl, rfl, trivial⟩ h
    | false =>
      have h := cd_f hb7 h
      refine py_if (pc := 25) (len := 3) false rfl hb7 ?_
      refine py_its (pc := 28) (pc1 := 29) (lv1 := [(0, .ref 69), (1, .int a1), (2, .int a2), (3, .int a3), (4, .int a4)]) (st1 := [.int (Int32.ofInt (-1))]) 1 (fun _ _ _ _ => rfl) ?_
      have h := Option.some.inj h
      subst h
      exact py_ir (pc := 29) (len := 1) (ty := .int) rfl rfl rfl hS2
/-! M_unlike -/
noncomputable def fb_M_unlike_L10 (v1 : Int32) (hp : px_H) (rc : Int64 → Int64 → Int32 → Option (Int64)) (v2 : Int64) (v4 : Int64) (v6 : Int32) : Option (Int64) :=
  bif px_cmp .ge v6 (gI hp 69 3) then
    some (v4 - v2)
  else
    bif px_cmp .eq (sx_has v1 v6) 0 then
      rc v2 v4 (v6 + Int32.ofInt 1)
    else
      (fn_M_anyOf ((Int32.ofInt 1) <<< (v6 &&& 31)) hp).bind fun q5 =>
      bif px_cmp .ge (lg_cmp v2 (Int64.ofNat 0)) 0 then
        rc (if q5 < v2 then q5 else v2) (if q5 < v4 then v4 else q5) (v6 + Int32.ofInt 1)
      else
        rc q5 (if q5 < v4 then v4 else q5) (v6 + Int32.ofInt 1)
noncomputable def fn_M_unlike_L10 (v1 : Int32) (hp : px_H) : Nat → Int64 → Int64 → Int32 → Option (Int64)
  | 0 => fun _ _ _ => none
  | n + 1 => fb_M_unlike_L10 v1 hp (fn_M_unlike_L10 v1 hp n)
theorem fl_M_unlike_L10 {v1 : Int32} {hp : px_H}  : ∀ (n : Nat) (v2 : Int64) (v4 : Int64) (v6 : Int32) (lv : List (Nat × Value)) (res : Int64), oS hp → lk lv [(0, .ref 69), (1, .int v1), (2, .long v2), (4, .long v4), (6, .int v6)] → fn_M_unlike_L10 v1 hp n v2 v4 v6 = some res → px_Y mm_M_unlike 10 lv [] hp (some (.long res)) hp := by
  intro n
  induction n with
  | zero =>
    intro v2 v4 v6 lv res hS hk h
    cases h
  | succ n ih =>
    intro v2 v4 v6 lv res hS hk h
    have h : fb_M_unlike_L10 v1 hp (fn_M_unlike_L10 v1 hp n) v2 v4 v6 = some res := h
    unfold fb_M_unlike_L10 at h
    refine py_il (pc := 10) (len := 2) (j := 6) rfl hk rfl ?_
    refine py_aln (pc := 12) (len := 1) (j := 0) rfl hk rfl ?_
    refine py_gI (pc := 13) (len := 3) (cs := [69]) rfl rfl rfl List.mem_cons_self hS ?_
    cases hb1 : px_cmp .ge v6 (gI hp 69 3) with
    | true =>
      have h := cd_t hb1 h
      refine py_ic (pc := 16) (len := 3) true rfl hb1 ?_
      refine py_ll (pc := 71) (len := 2) (j := 4) rfl hk rfl ?_
      refine py_lln (pc := 73) (len := 1) (j := 2) rfl hk rfl ?_
      refine py_its (pc := 74) (pc1 := 75) (lv1 := lv) (st1 := [.long (v4 - v2)]) 1 (fun _ _ _ _ => rfl) ?_
      have h := Option.some.inj h
      subst h
      exact py_lr (pc := 75) (len := 1) rfl rfl hS
    | false =>
      have h := cd_f hb1 h
      refine py_ic (pc := 16) (len := 3) false rfl hb1 ?_
      refine py_iln (pc := 19) (len := 1) (j := 1) rfl hk rfl ?_
      refine py_il (pc := 20) (len := 2) (j := 6) rfl hk rfl ?_
      refine py_st (pc := 22) (mi := mi_M_has) (N := mm_M_has) rfl rfl rfl (Nat.le_of_ble_eq_true rfl) (Nat.le_of_ble_eq_true rfl) rfl rfl (sx_has_C v1 v6 hp) ?_
      show px_Y mm_M_unlike 25 lv [.int (sx_has v1 v6)] hp _ _
      cases hb2 : px_cmp .eq (sx_has v1 v6) 0 with
      | true =>
        have h := cd_t hb2 h
        refine py_if (pc := 25) (len := 3) true rfl hb2 ?_
        refine py_inc (pc := 65) (len := 3) (j := 6) (n := 1) rfl rfl hk rfl (fun lv3 hk4 => ?_)
        have hk4 : lk lv3 [(6, .int (v6 + Int32.ofInt 1)), (0, .ref 69), (1, .int v1), (2, .long v2), (4, .long v4)] := hk4
        refine py_its (pc := 68) (pc1 := 10) (lv1 := lv3) (st1 := []) 1 (fun _ _ _ _ => rfl) ?_
        exact ih v2 v4 (v6 + Int32.ofInt 1) lv3 _ hS ⟨lk_find hk4 rfl, lk_find hk4 rfl, lk_find hk4 rfl, lk_find hk4 rfl, lk_find hk4 rfl, trivial⟩ h
      | false =>
        have h := cd_f hb2 h
        refine py_if (pc := 25) (len := 3) false rfl hb2 ?_
        refine py_aln (pc := 28) (len := 1) (j := 0) rfl hk rfl ?_
        refine py_its (pc := 29) (pc1 := 30) (lv1 := lv) (st1 := [.int (Int32.ofInt 1), .ref 69]) 1 (fun _ _ _ _ => rfl) ?_
        refine py_il (pc := 30) (len := 2) (j := 6) rfl hk rfl ?_
        refine py_its (pc := 32) (pc1 := 33) (lv1 := lv) (st1 := [.int ((Int32.ofInt 1) <<< (v6 &&& 31)), .ref 69]) 1 (fun _ _ _ _ => rfl) ?_
        obtain ⟨q5, hq6, h⟩ := bd_e h
        have hC7 := (fx_M_anyOf hS hq6).1
        refine py_vi (pc := 33) (mi := mi_M_anyOf) (cs := [69]) (N := mm_M_anyOf) rfl rfl rfl rfl List.mem_cons_self hS rfl (Nat.le_of_ble_eq_true rfl) (Nat.le_of_ble_eq_true rfl) rfl rfl hC7 ?_
        show px_Y mm_M_unlike 36 lv [.long q5] hp _ _
        refine py_stl (pc := 36) (len := 2) (j := 7) rfl rfl hk (fun lv8 hk9 => ?_)
        have hk9 : lk lv8 [(7, .long q5), (0, .ref 69), (1, .int v1), (2, .long v2), (4, .long v4), (6, .int v6)] := hk9
        refine py_lln (pc := 38) (len := 1) (j := 2) rfl hk9 rfl ?_
        refine py_its (pc := 39) (pc1 := 40) (lv1 := lv8) (st1 := [.long (Int64.ofNat 0), .long v2]) 1 (fun _ _ _ _ => rfl) ?_
        cases hb10 : px_cmp .ge (lg_cmp v2 (Int64.ofNat 0)) 0 with
        | true =>
          have h := cd_t hb10 h
          refine py_lc (pc := 40) (len := 1) true rfl rfl hb10 ?_
          refine py_lln (pc := 49) (len := 1) (j := 2) rfl hk9 rfl ?_
          refine py_ll (pc := 50) (len := 2) (j := 7) rfl hk9 rfl ?_
          refine py_mth (pc := 52) (w := 3) (st' := [.long (if q5 < v2 then q5 else v2)]) rfl rfl rfl (Nat.le_of_ble_eq_true rfl) ?_
          refine py_sln (pc := 55) (len := 1) (j := 2) rfl rfl hk9 (fun lv11 hk12 => ?_)
          have hk12 : lk lv11 [(2, .long (if q5 < v2 then q5 else v2)), (7, .long q5), (0, .ref 69), (1, .int v1), (4, .long v4), (6, .int v6)] := hk12
          refine py_ll (pc := 56) (len := 2) (j := 4) rfl hk12 rfl ?_
          refine py_ll (pc := 58) (len := 2) (j := 7) rfl hk12 rfl ?_
          refine py_mth (pc := 60) (w := 2) (st' := [.long (if q5 < v4 then v4 else q5)]) rfl rfl rfl (Nat.le_of_ble_eq_true rfl) ?_
          refine py_stl (pc := 63) (len := 2) (j := 4) rfl rfl hk12 (fun lv13 hk14 => ?_)
          have hk14 : lk lv13 [(4, .long (if q5 < v4 then v4 else q5)), (2, .long (if q5 < v2 then q5 else v2)), (7, .long q5), (0, .ref 69), (1, .int v1), (6, .int v6)] := hk14
          refine py_inc (pc := 65) (len := 3) (j := 6) (n := 1) rfl rfl hk14 rfl (fun lv15 hk16 => ?_)
          have hk16 : lk lv15 [(6, .int (v6 + Int32.ofInt 1)), (4, .long (if q5 < v4 then v4 else q5)), (2, .long (if q5 < v2 then q5 else v2)), (7, .long q5), (0, .ref 69), (1, .int v1)] := hk16
          refine py_its (pc := 68) (pc1 := 10) (lv1 := lv15) (st1 := []) 1 (fun _ _ _ _ => rfl) ?_
          exact ih (if q5 < v2 then q5 else v2) (if q5 < v4 then v4 else q5) (v6 + Int32.ofInt 1) lv15 _ hS ⟨lk_find hk16 rfl, lk_find hk16 rfl, lk_find hk16 rfl, lk_find hk16 rfl, lk_find hk16 rfl, trivial⟩ h
        | false =>
          have h := cd_f hb10 h
          refine py_lc (pc := 40) (len := 1) false rfl rfl hb10 ?_
          refine py_ll (pc := 44) (len := 2) (j := 7) rfl hk9 rfl ?_
          refine py_its (pc := 46) (pc1 := 55) (lv1 := lv8) (st1 := [.long q5]) 1 (fun _ _ _ _ => rfl) ?_
          refine py_sln (pc := 55) (len := 1) (j := 2) rfl rfl hk9 (fun lv17 hk18 => ?_)
          have hk18 : lk lv17 [(2, .long q5), (7, .long q5), (0, .ref 69), (1, .int v1), (4, .long v4), (6, .int v6)] := hk18
          refine py_ll (pc := 56) (len := 2) (j := 4) rfl hk18 rfl ?_
          refine py_ll (pc := 58) (len := 2) (j := 7) rfl hk18 rfl ?_
          refine py_mth (pc := 60) (w := 2) (st' := [.long (if q5 < v4 then v4 else q5)]) rfl rfl rfl (Nat.le_of_ble_eq_true rfl) ?_
          refine py_stl (pc := 63) (len := 2) (j := 4) rfl rfl hk18 (fun lv19 hk20 => ?_)
          have hk20 : lk lv19 [(4, .long (if q5 < v4 then v4 else q5)), (2, .long q5), (7, .long q5), (0, .ref 69), (1, .int v1), (6, .int v6)] := hk20
          refine py_inc (pc := 65) (len := 3) (j := 6) (n := 1) rfl rfl hk20 rfl (fun lv21 hk22 => ?_)
          have hk22 : lk lv21 [(6, .int (v6 + Int32.ofInt 1)), (4, .long (if q5 < v4 then v4 else q5)), (2, .long q5), (7, .long q5), (0, .ref 69), (1, .int v1)] := hk22
          refine py_its (pc := 68) (pc1 := 10) (lv1 := lv21) (st1 := []) 1 (fun _ _ _ _ => rfl) ?_
          exact ih q5 (if q5 < v4 then v4 else q5) (v6 + Int32.ofInt 1) lv21 _ hS ⟨lk_find hk22 rfl, lk_find hk22 rfl, lk_find hk22 rfl, lk_find hk22 rfl, lk_find hk22 rfl, trivial⟩ h
noncomputable def fn_M_unlike (a1 : Int32) (hp : px_H) : Option (Int64) :=
  fn_M_unlike_L10 a1 hp fu (Int64.ofInt (-1)) (Int64.ofNat 0) (Int32.ofInt 0)
theorem fx_M_unlike {a1 : Int32} {hp : px_H} {res : Int64} (hS : oS hp) (h : fn_M_unlike a1 hp = some res) : px_C nm_T nm_P mi_M_unlike [.ref 69, .int a1] hp (some (.long res)) hp ∧ oS hp := by
  unfold fn_M_unlike at h
  refine py_C (M := mm_M_unlike) rfl (Nat.le_of_ble_eq_true rfl) ?_
  show px_Y mm_M_unlike 0 [(0, .ref 69), (1, .int a1)] [] hp _ _
  refine py_its (pc := 0) (pc1 := 10) (lv1 := [(6, .int (Int32.ofInt 0)), (4, .long (Int64.ofNat 0)), (2, .long (Int64.ofInt (-1))), (0, .ref 69), (1, .int a1)]) (st1 := []) 6 (fun _ _ _ _ => rfl) ?_
  exact fl_M_unlike_L10 fu (Int64.ofInt (-1)) (Int64.ofNat 0) (Int32.ofInt 0) [(6, .int (Int32.ofInt 0)), (4, .long (Int64.ofNat 0)), (2, .long (Int64.ofInt (-1))), (0, .ref 69), (1, .int a1)] _ hS ⟨rfl, rfl, rfl, rfl, rfl, trivial⟩ h
/-! M_even -/
noncomputable def fb_M_even_L39 (v1 : Int32) (v2 : Int32) (v3 : Int32) (v4 : Int32) (rc : Int32 → Int64 → Int32 → px_H → Option (Int32 × px_H)) (v5 : Int32) (v6 : Int64) (v8 : Int32) (hp : px_H) : Option (Int32 × px_H) :=
  bif px_cmp .gt v8 v2 then
    sb (wF hp 69 1 (.int (Int32.ofInt 0))) fun h13 =>
    (fn_M_enters v5.toInt64 h13).bind fun q15 =>
    (fn_M_enters v6 q15).bind fun q19 =>
    some ((Int32.ofInt 0), q19)
  else
    bif px_cmp .eq (v8 &&& (v2 ^^^ (Int32.ofInt (-1)))) 0 then
      (fn_M_packing v1 v2 v8 hp).bind fun q24 =>
      (fn_M_tries v1 q24 v4 hp).bind fun q29 =>
      bif px_cmp .ne q29.1 0 then
        (fn_M_unlike v3 q29.2).bind fun q34 =>
        bif px_cmp .lt v5 0 then
          rc q24 q34 (v8 + Int32.ofInt 1) q29.2
        else
          bif px_cmp .lt (lg_cmp q34 v6) 0 then
            rc q24 q34 (v8 + Int32.ofInt 1) q29.2
          else
            bif px_cmp .ne (lg_cmp q34 v6) 0 then
              rc v5 v6 (v8 + Int32.ofInt 1) q29.2
            else
              bif px_cmp .le (nm_bc q24) (nm_bc v5) then
                rc v5 v6 (v8 + Int32.ofInt 1) q29.2
              else
                rc q24 q34 (v8 + Int32.ofInt 1) q29.2
      else
        some ((Int8.ofInt (-3)).toInt32, q29.2)
    else
      rc v5 v6 (v8 + Int32.ofInt 1) hp
noncomputable def fn_M_even_L39 (v1 : Int32) (v2 : Int32) (v3 : Int32) (v4 : Int32) : Nat → Int32 → Int64 → Int32 → px_H → Option (Int32 × px_H)
  | 0 => fun _ _ _ _ => none
  | n + 1 => fb_M_even_L39 v1 v2 v3 v4 (fn_M_even_L39 v1 v2 v3 v4 n)
theorem fl_M_even_L39 {v1 : Int32} {v2 : Int32} {v3 : Int32} {v4 : Int32}  : ∀ (n : Nat) (v5 : Int32) (v6 : Int64) (v8 : Int32) (hp : px_H) (lv : List (Nat × Value)) (res : Int32 × px_H), oS hp → lk lv [(0, .ref 69), (1, .int v1), (2, .int v2), (3, .int v3), (4, .int v4), (5, .int v5), (6, .long v6), (8, .int v8)] → fn_M_even_L39 v1 v2 v3 v4 n v5 v6 v8 hp = some res → px_Y mm_M_even 39 lv [] hp (some (.int res.1)) res.2 := by
  intro n
  induction n with
  | zero =>
    intro v5 v6 v8 hp lv res hS hk h
    cases h
  | succ n ih =>
    intro v5 v6 v8 hp lv res hS hk h
    have h : fb_M_even_L39 v1 v2 v3 v4 (fn_M_even_L39 v1 v2 v3 v4 n) v5 v6 v8 hp = some res := h
    unfold fb_M_even_L39 at h
    refine py_il (pc := 39) (len := 2) (j := 8) rfl hk rfl ?_
    refine py_iln (pc := 41) (len := 1) (j := 2) rfl hk rfl ?_
    cases hb12 : px_cmp .gt v8 v2 with
    | true =>
      have h := cd_t hb12 h
      refine py_ic (pc := 42) (len := 3) true rfl hb12 ?_
      refine py_aln (pc := 137) (len := 1) (j := 0) rfl hk rfl ?_
      refine py_its (pc := 138) (pc1 := 139) (lv1 := lv) (st1 := [.int (Int32.ofInt 0), .ref 69]) 1 (fun _ _ _ _ => rfl) ?_
      have h := sb_e h
      refine py_pI (pc := 139) (len := 3) (cs := [69]) rfl rfl rfl List.mem_cons_self hS rfl rfl rfl rfl ?_
      have hS14 : oS (wF hp 69 1 (.int (Int32.ofInt 0))) := oS_wI (cs := [69]) (ci := 9) rfl List.mem_cons_self hS
      generalize (wF hp 69 1 (.int (Int32.ofInt 0))) = h13 at h hS14 ⊢
      refine py_aln (pc := 142) (len := 1) (j := 0) rfl hk rfl ?_
      refine py_il (pc := 143) (len := 2) (j := 5) rfl hk rfl ?_
      refine py_its (pc := 145) (pc1 := 146) (lv1 := lv) (st1 := [.long v5.toInt64, .ref 69]) 1 (fun _ _ _ _ => rfl) ?_
      obtain ⟨q15, hq16, h⟩ := bd_e h
      obtain ⟨hC17, hS18⟩ := fx_M_enters hS14 hq16
      refine py_vi (pc := 146) (mi := mi_M_enters) (cs := [69]) (N := mm_M_enters) rfl rfl rfl rfl List.mem_cons_self hS14 rfl (Nat.le_of_ble_eq_true rfl) (Nat.le_of_ble_eq_true rfl) rfl rfl hC17 ?_
      show px_Y mm_M_even 149 lv [] q15 _ _
      refine py_aln (pc := 149) (len := 1) (j := 0) rfl hk rfl ?_
      refine py_ll (pc := 150) (len := 2) (j := 6) rfl hk rfl ?_
      obtain ⟨q19, hq20, h⟩ := bd_e h
      obtain ⟨hC21, hS22⟩ := fx_M_enters hS18 hq20
      refine py_vi (pc := 152) (mi := mi_M_enters) (cs := [69]) (N := mm_M_enters) rfl rfl rfl rfl List.mem_cons_self hS18 rfl (Nat.le_of_ble_eq_true rfl) (Nat.le_of_ble_eq_true rfl) rfl rfl hC21 ?_
      show px_Y mm_M_even 155 lv [] q19 _ _
      refine py_its (pc := 155) (pc1 := 156) (lv1 := lv) (st1 := [.int (Int32.ofInt 0)]) 1 (fun _ _ _ _ => rfl) ?_
      have h := Option.some.inj h
      subst h
      exact py_ir (pc := 156) (len := 1) (ty := .int) rfl rfl rfl hS22
    | false =>
      have h := cd_f hb12 h
      refine py_ic (pc := 42) (len := 3) false rfl hb12 ?_
      refine py_il (pc := 45) (len := 2) (j := 8) rfl hk rfl ?_
      refine py_iln (pc := 47) (len := 1) (j := 2) rfl hk rfl ?_
      refine py_its (pc := 48) (pc1 := 51) (lv1 := lv) (st1 := [.int (v8 &&& (v2 ^^^ (Int32.ofInt (-1))))]) 3 (fun _ _ _ _ => rfl) ?_
      cases hb23 : px_cmp .eq (v8 &&& (v2 ^^^ (Int32.ofInt (-1)))) 0 with
      | true =>
        have h := cd_t hb23 h
        refine py_if (pc := 51) (len := 3) true rfl hb23 ?_
        refine py_aln (pc := 57) (len := 1) (j := 0) rfl hk rfl ?_
        refine py_iln (pc := 58) (len := 1) (j := 1) rfl hk rfl ?_
        refine py_iln (pc := 59) (len := 1) (j := 2) rfl hk rfl ?_
        refine py_il (pc := 60) (len := 2) (j := 8) rfl hk rfl ?_
        obtain ⟨q24, hq25, h⟩ := bd_e h
        have hC26 := (fx_M_packing hS hq25).1
        refine py_vi (pc := 62) (mi := mi_M_packing) (cs := [69]) (N := mm_M_packing) rfl rfl rfl rfl List.mem_cons_self hS rfl (Nat.le_of_ble_eq_true rfl) (Nat.le_of_ble_eq_true rfl) rfl rfl hC26 ?_
        show px_Y mm_M_even 65 lv [.int q24] hp _ _
        refine py_sti (pc := 65) (len := 2) (j := 9) rfl rfl hk (fun lv27 hk28 => ?_)
        have hk28 : lk lv27 [(9, .int q24), (0, .ref 69), (1, .int v1), (2, .int v2), (3, .int v3), (4, .int v4), (5, .int v5), (6, .long v6), (8, .int v8)] := hk28
        refine py_aln (pc := 67) (len := 1) (j := 0) rfl hk28 rfl ?_
        refine py_iln (pc := 68) (len := 1) (j := 1) rfl hk28 rfl ?_
        refine py_il (pc := 69) (len := 2) (j := 9) rfl hk28 rfl ?_
        refine py_il (pc := 71) (len := 2) (j := 4) rfl hk28 rfl ?_
        obtain ⟨q29, hq30, h⟩ := bd_e h
        obtain ⟨hC31, hS32⟩ := fx_M_tries hS hq30
        refine py_vi (pc := 73) (mi := mi_M_tries) (cs := [69]) (N := mm_M_tries) rfl rfl rfl rfl List.mem_cons_self hS rfl (Nat.le_of_ble_eq_true rfl) (Nat.le_of_ble_eq_true rfl) rfl rfl hC31 ?_
        show px_Y mm_M_even 76 lv27 [.int q29.1] q29.2 _ _
        cases hb33 : px_cmp .ne q29.1 0 with
        | true =>
          have h := cd_t hb33 h
          refine py_if (pc := 76) (len := 3) true rfl hb33 ?_
          refine py_aln (pc := 82) (len := 1) (j := 0) rfl hk28 rfl ?_
          refine py_iln (pc := 83) (len := 1) (j := 3) rfl hk28 rfl ?_
          obtain ⟨q34, hq35, h⟩ := bd_e h
          have hC36 := (fx_M_unlike hS32 hq35).1
          refine py_vi (pc := 84) (mi := mi_M_unlike) (cs := [69]) (N := mm_M_unlike) rfl rfl rfl rfl List.mem_cons_self hS32 rfl (Nat.le_of_ble_eq_true rfl) (Nat.le_of_ble_eq_true rfl) rfl rfl hC36 ?_
          show px_Y mm_M_even 87 lv27 [.long q34] q29.2 _ _
          refine py_stl (pc := 87) (len := 2) (j := 10) rfl rfl hk28 (fun lv37 hk38 => ?_)
          have hk38 : lk lv37 [(10, .long q34), (9, .int q24), (0, .ref 69), (1, .int v1), (2, .int v2), (3, .int v3), (4, .int v4), (5, .int v5), (6, .long v6), (8, .int v8)] := hk38
          refine py_il (pc := 89) (len := 2) (j := 5) rfl hk38 rfl ?_
          cases hb39 : px_cmp .lt v5 0 with
          | true =>
            have h := cd_t hb39 h
            refine py_if (pc := 91) (len := 3) true rfl hb39 ?_
            refine py_il (pc := 123) (len := 2) (j := 9) rfl hk38 rfl ?_
            refine py_sti (pc := 125) (len := 2) (j := 5) rfl rfl hk38 (fun lv40 hk41 => ?_)
            have hk41 : lk lv40 [(5, .int q24), (10, .long q34), (9, .int q24), (0, .ref 69), (1, .int v1), (2, .int v2), (3, .int v3), (4, .int v4), (6, .long v6), (8, .int v8)] := hk41
            refine py_ll (pc := 127) (len := 2) (j := 10) rfl hk41 rfl ?_
            refine py_stl (pc := 129) (len := 2) (j := 6) rfl rfl hk41 (fun lv42 hk43 => ?_)
            have hk43 : lk lv42 [(6, .long q34), (5, .int q24), (10, .long q34), (9, .int q24), (0, .ref 69), (1, .int v1), (2, .int v2), (3, .int v3), (4, .int v4), (8, .int v8)] := hk43
            refine py_inc (pc := 131) (len := 3) (j := 8) (n := 1) rfl rfl hk43 rfl (fun lv44 hk45 => ?_)
            have hk45 : lk lv44 [(8, .int (v8 + Int32.ofInt 1)), (6, .long q34), (5, .int q24), (10, .long q34), (9, .int q24), (0, .ref 69), (1, .int v1), (2, .int v2), (3, .int v3), (4, .int v4)] := hk45
            refine py_its (pc := 134) (pc1 := 39) (lv1 := lv44) (st1 := []) 1 (fun _ _ _ _ => rfl) ?_
            exact ih q24 q34 (v8 + Int32.ofInt 1) q29.2 lv44 _ hS32 ⟨lk_find hk45 rfl, lk_find hk45 rfl, lk_find hk45 rfl, lk_find hk45 rfl, lk_find hk45 rfl, lk_find hk45 rfl, lk_find hk45 rfl, lk_find hk45 rfl, trivial⟩ h
          | false =>
            have h := cd_f hb39 h
            refine py_if (pc := 91) (len := 3) false rfl hb39 ?_
            refine py_ll (pc := 94) (len := 2) (j := 10) rfl hk38 rfl ?_
            refine py_ll (pc := 96) (len := 2) (j := 6) rfl hk38 rfl ?_
            cases hb46 : px_cmp .lt (lg_cmp q34 v6) 0 with
            | true =>
              have h := cd_t hb46 h
              refine py_lc (pc := 98) (len := 1) true rfl rfl hb46 ?_
              refine py_il (pc := 123) (len := 2) (j := 9) rfl hk38 rfl ?_
              refine py_sti (pc := 125) (len := 2) (j := 5) rfl rfl hk38 (fun lv47 hk48 => ?_)
              have hk48 : lk lv47 [(5, .int q24), (10, .long q34), (9, .int q24), (0, .ref 69), (1, .int v1), (2, .int v2), (3, .int v3), (4, .int v4), (6, .long v6), (8, .int v8)] := hk48
              refine py_ll (pc := 127) (len := 2) (j := 10) rfl hk48 rfl ?_
              refine py_stl (pc := 129) (len := 2) (j := 6) rfl rfl hk48 (fun lv49 hk50 => ?_)
              have hk50 : lk lv49 [(6, .long q34), (5, .int q24), (10, .long q34), (9, .int q24), (0, .ref 69), (1, .int v1), (2, .int v2), (3, .int v3), (4, .int v4), (8, .int v8)] := hk50
              refine py_inc (pc := 131) (len := 3) (j := 8) (n := 1) rfl rfl hk50 rfl (fun lv51 hk52 => ?_)
              have hk52 : lk lv51 [(8, .int (v8 + Int32.ofInt 1)), (6, .long q34), (5, .int q24), (10, .long q34), (9, .int q24), (0, .ref 69), (1, .int v1), (2, .int v2), (3, .int v3), (4, .int v4)] := hk52
              refine py_its (pc := 134) (pc1 := 39) (lv1 := lv51) (st1 := []) 1 (fun _ _ _ _ => rfl) ?_
              exact ih q24 q34 (v8 + Int32.ofInt 1) q29.2 lv51 _ hS32 ⟨lk_find hk52 rfl, lk_find hk52 rfl, lk_find hk52 rfl, lk_find hk52 rfl, lk_find hk52 rfl, lk_find hk52 rfl, lk_find hk52 rfl, lk_find hk52 rfl, trivial⟩ h
            | false =>
              have h := cd_f hb46 h
              refine py_lc (pc := 98) (len := 1) false rfl rfl hb46 ?_
              refine py_ll (pc := 102) (len := 2) (j := 10) rfl hk38 rfl ?_
              refine py_ll (pc := 104) (len := 2) (j := 6) rfl hk38 rfl ?_
              cases hb53 : px_cmp .ne (lg_cmp q34 v6) 0 with
              | true =>
                have h := cd_t hb53 h
                refine py_lc (pc := 106) (len := 1) true rfl rfl hb53 ?_
                refine py_inc (pc := 131) (len := 3) (j := 8) (n := 1) rfl rfl hk38 rfl (fun lv54 hk55 => ?_)
                have hk55 : lk lv54 [(8, .int (v8 + Int32.ofInt 1)), (10, .long q34), (9, .int q24), (0, .ref 69), (1, .int v1), (2, .int v2), (3, .int v3), (4, .int v4), (5, .int v5), (6, .long v6)] := hk55
                refine py_its (pc := 134) (pc1 := 39) (lv1 := lv54) (st1 := []) 1 (fun _ _ _ _ => rfl) ?_
                exact ih v5 v6 (v8 + Int32.ofInt 1) q29.2 lv54 _ hS32 ⟨lk_find hk55 rfl, lk_find hk55 rfl, lk_find hk55 rfl, lk_find hk55 rfl, lk_find hk55 rfl, lk_find hk55 rfl, lk_find hk55 rfl, lk_find hk55 rfl, trivial⟩ h
              | false =>
                have h := cd_f hb53 h
                refine py_lc (pc := 106) (len := 1) false rfl rfl hb53 ?_
                refine py_il (pc := 110) (len := 2) (j := 9) rfl hk38 rfl ?_
                refine py_st (pc := 112) (mi := mi_I_bitCount) (N := mm_I_bitCount) rfl rfl rfl (Nat.le_of_ble_eq_true rfl) (Nat.le_of_ble_eq_true rfl) rfl rfl (nm_bc_C q24 q29.2) ?_
                show px_Y mm_M_even 115 lv37 [.int (nm_bc q24)] q29.2 _ _
                refine py_il (pc := 115) (len := 2) (j := 5) rfl hk38 rfl ?_
                refine py_st (pc := 117) (mi := mi_I_bitCount) (N := mm_I_bitCount) rfl rfl rfl (Nat.le_of_ble_eq_true rfl) (Nat.le_of_ble_eq_true rfl) rfl rfl (nm_bc_C v5 q29.2) ?_
                show px_Y mm_M_even 120 lv37 [.int (nm_bc v5), .int (nm_bc q24)] q29.2 _ _
                cases hb56 : px_cmp .le (nm_bc q24) (nm_bc v5) with
                | true =>
                  have h := cd_t hb56 h
                  refine py_ic (pc := 120) (len := 3) true rfl hb56 ?_
                  refine py_inc (pc := 131) (len := 3) (j := 8) (n := 1) rfl rfl hk38 rfl (fun lv57 hk58 => ?_)
                  have hk58 : lk lv57 [(8, .int (v8 + Int32.ofInt 1)), (10, .long q34), (9, .int q24), (0, .ref 69), (1, .int v1), (2, .int v2), (3, .int v3), (4, .int v4), (5, .int v5), (6, .long v6)] := hk58
                  refine py_its (pc := 134) (pc1 := 39) (lv1 := lv57) (st1 := []) 1 (fun _ _ _ _ => rfl) ?_
                  exact ih v5 v6 (v8 + Int32.ofInt 1) q29.2 lv57 _ hS32 ⟨lk_find hk58 rfl, lk_find hk58 rfl, lk_find hk58 rfl, lk_find hk58 rfl, lk_find hk58 rfl, lk_find hk58 rfl, lk_find hk58 rfl, lk_find hk58 rfl, trivial⟩ h
                | false =>
                  have h := cd_f hb56 h
                  refine py_ic (pc := 120) (len := 3) false rfl hb56 ?_
                  refine py_il (pc := 123) (len := 2) (j := 9) rfl hk38 rfl ?_
                  refine py_sti (pc := 125) (len := 2) (j := 5) rfl rfl hk38 (fun lv59 hk60 => ?_)
                  have hk60 : lk lv59 [(5, .int q24), (10, .long q34), (9, .int q24), (0, .ref 69), (1, .int v1), (2, .int v2), (3, .int v3), (4, .int v4), (6, .long v6), (8, .int v8)] := hk60
                  refine py_ll (pc := 127) (len := 2) (j := 10) rfl hk60 rfl ?_
                  refine py_stl (pc := 129) (len := 2) (j := 6) rfl rfl hk60 (fun lv61 hk62 => ?_)
                  have hk62 : lk lv61 [(6, .long q34), (5, .int q24), (10, .long q34), (9, .int q24), (0, .ref 69), (1, .int v1), (2, .int v2), (3, .int v3), (4, .int v4), (8, .int v8)] := hk62
                  refine py_inc (pc := 131) (len := 3) (j := 8) (n := 1) rfl rfl hk62 rfl (fun lv63 hk64 => ?_)
                  have hk64 : lk lv63 [(8, .int (v8 + Int32.ofInt 1)), (6, .long q34), (5, .int q24), (10, .long q34), (9, .int q24), (0, .ref 69), (1, .int v1), (2, .int v2), (3, .int v3), (4, .int v4)] := hk64
                  refine py_its (pc := 134) (pc1 := 39) (lv1 := lv63) (st1 := []) 1 (fun _ _ _ _ => rfl) ?_
                  exact ih q24 q34 (v8 + Int32.ofInt 1) q29.2 lv63 _ hS32 ⟨lk_find hk64 rfl, lk_find hk64 rfl, lk_find hk64 rfl, lk_find hk64 rfl, lk_find hk64 rfl, lk_find hk64 rfl, lk_find hk64 rfl, lk_find hk64 rfl, trivial⟩ h
        | false =>
          have h := cd_f hb33 h
          refine py_if (pc := 76) (len := 3) false rfl hb33 ?_
          refine py_its (pc := 79) (pc1 := 81) (lv1 := lv27) (st1 := [.int (Int8.ofInt (-3)).toInt32]) 1 (fun _ _ _ _ => rfl) ?_
          have h := Option.some.inj h
          subst h
          exact py_ir (pc := 81) (len := 1) (ty := .int) rfl rfl rfl hS32
      | false =>
        have h := cd_f hb23 h
        refine py_if (pc := 51) (len := 3) false rfl hb23 ?_
        refine py_its (pc := 54) (pc1 := 131) (lv1 := lv) (st1 := []) 1 (fun _ _ _ _ => rfl) ?_
        refine py_inc (pc := 131) (len := 3) (j := 8) (n := 1) rfl rfl hk rfl (fun lv65 hk66 => ?_)
        have hk66 : lk lv65 [(8, .int (v8 + Int32.ofInt 1)), (0, .ref 69), (1, .int v1), (2, .int v2), (3, .int v3), (4, .int v4), (5, .int v5), (6, .long v6)] := hk66
        refine py_its (pc := 134) (pc1 := 39) (lv1 := lv65) (st1 := []) 1 (fun _ _ _ _ => rfl) ?_
        exact ih v5 v6 (v8 + Int32.ofInt 1) hp lv65 _ hS ⟨lk_find hk66 rfl, lk_find hk66 rfl, lk_find hk66 rfl, lk_find hk66 rfl, lk_find hk66 rfl, lk_find hk66 rfl, lk_find hk66 rfl, lk_find hk66 rfl, trivial⟩ h
noncomputable def fn_M_even (a1 : Int32) (a2 : Int32) (a3 : Int32) (a4 : Int32) (hp : px_H) : Option (Int32 × px_H) :=
  sb (wF hp 69 0 (.int (Int32.ofInt 0))) fun h1 =>
  (fn_M_isPacking a1 a2 a4 h1).bind fun q3 =>
  bif px_cmp .eq q3 0 then
    some ((Int32.ofInt (-1)), h1)
  else
    (fn_M_isSet a3 h1).bind fun q7 =>
    bif px_cmp .eq q7 0 then
      some ((Int32.ofInt (-1)), h1)
    else
      bif px_cmp .ne a3 0 then
        fn_M_even_L39 a1 a2 a3 a4 fu (Int32.ofInt (-1)) (Int64.ofNat 0) (Int32.ofInt 0) h1
      else
        some ((Int32.ofInt (-1)), h1)
theorem fx_M_even {a1 : Int32} {a2 : Int32} {a3 : Int32} {a4 : Int32} {hp : px_H} {res : Int32 × px_H} (hS : oS hp) (h : fn_M_even a1 a2 a3 a4 hp = some res) : px_C nm_T nm_P mi_M_even [.ref 69, .int a1, .int a2, .int a3, .int a4] hp (some (.int res.1)) res.2 ∧ oS res.2 := by
  unfold fn_M_even at h
  refine py_C (M := mm_M_even) rfl (Nat.le_of_ble_eq_true rfl) ?_
  show px_Y mm_M_even 0 [(0, .ref 69), (1, .int a1), (2, .int a2), (3, .int a3), (4, .int a4)] [] hp _ _
  refine py_its (pc := 0) (pc1 := 2) (lv1 := [(0, .ref 69), (1, .int a1), (2, .int a2), (3, .int a3), (4, .int a4)]) (st1 := [.int (Int32.ofInt 0), .ref 69]) 2 (fun _ _ _ _ => rfl) ?_
  have h := sb_e h
  refine py_pI (pc := 2) (len := 3) (cs := [69]) rfl rfl rfl List.mem_cons_self hS rfl rfl rfl rfl ?_
  have hS2 : oS (wF hp 69 0 (.int (Int32.ofInt 0))) := oS_wI (cs := [69]) (ci := 9) rfl List.mem_cons_self hS
  generalize (wF hp 69 0 (.int (Int32.ofInt 0))) = h1 at h hS2 ⊢
  refine py_its (pc := 5) (pc1 := 10) (lv1 := [(0, .ref 69), (1, .int a1), (2, .int a2), (3, .int a3), (4, .int a4)]) (st1 := [.int a4, .int a2, .int a1, .ref 69]) 4 (fun _ _ _ _ => rfl) ?_
  obtain ⟨q3, hq4, h⟩ := bd_e h
  have hC5 := (fx_M_isPacking hS2 hq4).1
  refine py_vi (pc := 10) (mi := mi_M_isPacking) (cs := [69]) (N := mm_M_isPacking) rfl rfl rfl rfl List.mem_cons_self hS2 rfl (Nat.le_of_ble_eq_true rfl) (Nat.le_of_ble_eq_true rfl) rfl rfl hC5 ?_
  show px_Y mm_M_even 13 [(0, .ref 69), (1, .int a1), (2, .int a2), (3, .int a3), (4, .int a4)] [.int q3] h1 _ _
  cases hb6 : px_cmp .eq q3 0 with
  | true =>
    have h := cd_t hb6 h
    refine py_if (pc := 13) (len := 3) true rfl hb6 ?_
    refine py_its (pc := 28) (pc1 := 29) (lv1 := [(0, .ref 69), (1, .int a1), (2, .int a2), (3, .int a3), (4, .int a4)]) (st1 := [.int (Int32.ofInt (-1))]) 1 (fun _ _ _ _ => rfl) ?_
    have h := Option.some.inj h
    subst h
    exact py_ir (pc := 29) (len := 1) (ty := .int) rfl rfl rfl hS2
  | false =>
    have h := cd_f hb6 h
    refine py_if (pc := 13) (len := 3) false rfl hb6 ?_
    refine py_its (pc := 16) (pc1 := 18) (lv1 := [(0, .ref 69), (1, .int a1), (2, .int a2), (3, .int a3), (4, .int a4)]) (st1 := [.int a3, .ref 69]) 2 (fun _ _ _ _ => rfl) ?_
    obtain ⟨q7, hq8, h⟩ := bd_e h
    have hC9 := (fx_M_isSet hS2 hq8).1
    refine py_vi (pc := 18) (mi := mi_M_isSet) (cs := [69]) (N := mm_M_isSet) rfl rfl rfl rfl List.mem_cons_self hS2 rfl (Nat.le_of_ble_eq_true rfl) (Nat.le_of_ble_eq_true rfl) rfl rfl hC9 ?_
    show px_Y mm_M_even 21 [(0, .ref 69), (1, .int a1), (2, .int a2), (3, .int a3), (4, .int a4)] [.int q7] h1 _ _
    cases hb10 : px_cmp .eq q7 0 with
    | true =>
      have h := cd_t hb10 h
      refine py_if (pc := 21) (len := 3) true rfl hb10 ?_
      refine py_its (pc := 28) (pc1 := 29) (lv1 := [(0, .ref 69), (1, .int a1), (2, .int a2), (3, .int a3), (4, .int a4)]) (st1 := [.int (Int32.ofInt (-1))]) 1 (fun _ _ _ _ => rfl) ?_
      have h := Option.some.inj h
      subst h
      exact py_ir (pc := 29) (len := 1) (ty := .int) rfl rfl rfl hS2
    | false =>
      have h := cd_f hb10 h
      refine py_if (pc := 21) (len := 3) false rfl hb10 ?_
      refine py_its (pc := 24) (pc1 := 25) (lv1 := [(0, .ref 69), (1, .int a1), (2, .int a2), (3, .int a3), (4, .int a4)]) (st1 := [.int a3]) 1 (fun _ _ _ _ => rfl) ?_
      cases hb11 : px_cmp .ne a3 0 with
      | true =>
        have h := cd_t hb11 h
        refine py_if (pc := 25) (len := 3) true rfl hb11 ?_
        refine py_its (pc := 30) (pc1 := 39) (lv1 := [(8, .int (Int32.ofInt 0)), (6, .long (Int64.ofNat 0)), (5, .int (Int32.ofInt (-1))), (0, .ref 69), (1, .int a1), (2, .int a2), (3, .int a3), (4, .int a4)]) (st1 := []) 6 (fun _ _ _ _ => rfl) ?_
        exact fl_M_even_L39 fu (Int32.ofInt (-1)) (Int64.ofNat 0) (Int32.ofInt 0) h1 [(8, .int (Int32.ofInt 0)), (6, .long (Int64.ofNat 0)), (5, .int (Int32.ofInt (-1))), (0, .ref 69), (1, .int a1), (2, .int a2), (3, .int a3), (4, .int a4)] _ hS2 ⟨rfl, rfl, rfl, rfl, rfl, rfl, rfl, rfl, trivial⟩ h
      | false =>
        have h := cd_f hb11 h
        refine py_if (pc := 25) (len := 3) false rfl hb11 ?_
        refine py_its (pc := 28) (pc1 := 29) (lv1 := [(0, .ref 69), (1, .int a1), (2, .int a2), (3, .int a3), (4, .int a4)]) (st1 := [.int (Int32.ofInt (-1))]) 1 (fun _ _ _ _ => rfl) ?_
        have h := Option.some.inj h
        subst h
        exact py_ir (pc := 29) (len := 1) (ty := .int) rfl rfl rfl hS2
/-! M_fair -/
noncomputable def fb_M_fair_L68 (v1 : Int32) (v2 : Int32) (rc : Int32 → Int64 → Int32 → Int32 → px_H → Option (Int32 × px_H)) (v3 : Int32) (v4 : Int64) (v6 : Int32) (v7 : Int32) (hp : px_H) : Option (Int32 × px_H) :=
  bif px_cmp .ge v7 (Int32.ofInt 4) then
    sb (wF hp 69 15 (.int (Int32.ofInt 0))) fun h16 =>
    bif px_cmp .ne v6 0 then
      sb (wF h16 69 1 (.int (Int32.ofInt 0))) fun h19 =>
      (fn_M_enters v4 h19).bind fun q21 =>
      bif px_cmp .ne v3 0 then
        some ((v3 - (Int32.ofInt 1)), q21)
      else
        some ((Int32.ofInt 3), q21)
    else
      some ((Int8.ofInt (-3)).toInt32, h16)
  else
    bif px_cmp .eq v6 0 then
      sb (wF hp 69 15 (.int (Int32.ofInt 0))) fun h27 =>
      bif px_cmp .ne v6 0 then
        sb (wF h27 69 1 (.int (Int32.ofInt 0))) fun h30 =>
        (fn_M_enters v4 h30).bind fun q32 =>
        bif px_cmp .ne v3 0 then
          some ((v3 - (Int32.ofInt 1)), q32)
        else
          some ((Int32.ofInt 3), q32)
      else
        some ((Int8.ofInt (-3)).toInt32, h27)
    else
      bif px_cmp .le v7 0 then
        sb (wF hp 69 15 (.int v7)) fun h38 =>
        (fn_M_asks v2 h38).bind fun q40 =>
        bif px_cmp .eq q40.1 0 then
          bif px_cmp .eq q40.1 0 then
            rc v3 v4 q40.1 (v7 + Int32.ofInt 1) q40.2
          else
            bif px_cmp .lt v3 0 then
              rc v7 (Int64.ofNat 0) q40.1 (v7 + Int32.ofInt 1) q40.2
            else
              bif px_cmp .ge (lg_cmp (Int64.ofNat 0) v4) 0 then
                rc v3 v4 q40.1 (v7 + Int32.ofInt 1) q40.2
              else
                rc v7 (Int64.ofNat 0) q40.1 (v7 + Int32.ofInt 1) q40.2
        else
          (fn_M_unlike v1 q40.2).bind fun q68 =>
          bif px_cmp .eq q40.1 0 then
            rc v3 v4 q40.1 (v7 + Int32.ofInt 1) q40.2
          else
            bif px_cmp .lt v3 0 then
              rc v7 q68 q40.1 (v7 + Int32.ofInt 1) q40.2
            else
              bif px_cmp .ge (lg_cmp q68 v4) 0 then
                rc v3 v4 q40.1 (v7 + Int32.ofInt 1) q40.2
              else
                rc v7 q68 q40.1 (v7 + Int32.ofInt 1) q40.2
      else
        bif px_inR v7 4 then
        bif px_cmp .ne (aI hp 82 v7.toNatClampNeg) 0 then
          sb (wF hp 69 15 (.int v7)) fun h94 =>
          (fn_M_asks v2 h94).bind fun q96 =>
          bif px_cmp .eq q96.1 0 then
            bif px_cmp .eq q96.1 0 then
              rc v3 v4 q96.1 (v7 + Int32.ofInt 1) q96.2
            else
              bif px_cmp .lt v3 0 then
                rc v7 (Int64.ofNat 0) q96.1 (v7 + Int32.ofInt 1) q96.2
              else
                bif px_cmp .ge (lg_cmp (Int64.ofNat 0) v4) 0 then
                  rc v3 v4 q96.1 (v7 + Int32.ofInt 1) q96.2
                else
                  rc v7 (Int64.ofNat 0) q96.1 (v7 + Int32.ofInt 1) q96.2
          else
            (fn_M_unlike v1 q96.2).bind fun q124 =>
            bif px_cmp .eq q96.1 0 then
              rc v3 v4 q96.1 (v7 + Int32.ofInt 1) q96.2
            else
              bif px_cmp .lt v3 0 then
                rc v7 q124 q96.1 (v7 + Int32.ofInt 1) q96.2
              else
                bif px_cmp .ge (lg_cmp q124 v4) 0 then
                  rc v3 v4 q96.1 (v7 + Int32.ofInt 1) q96.2
                else
                  rc v7 q124 q96.1 (v7 + Int32.ofInt 1) q96.2
        else
          rc v3 v4 v6 (v7 + Int32.ofInt 1) hp
        else none
noncomputable def fn_M_fair_L68 (v1 : Int32) (v2 : Int32) : Nat → Int32 → Int64 → Int32 → Int32 → px_H → Option (Int32 × px_H)
  | 0 => fun _ _ _ _ _ => none
  | n + 1 => fb_M_fair_L68 v1 v2 (fn_M_fair_L68 v1 v2 n)
theorem fl_M_fair_L68 {v1 : Int32} {v2 : Int32}  : ∀ (n : Nat) (v3 : Int32) (v4 : Int64) (v6 : Int32) (v7 : Int32) (hp : px_H) (lv : List (Nat × Value)) (res : Int32 × px_H), oS hp → lk lv [(0, .ref 69), (1, .int v1), (2, .int v2), (3, .int v3), (4, .long v4), (6, .int v6), (7, .int v7)] → fn_M_fair_L68 v1 v2 n v3 v4 v6 v7 hp = some res → px_Y mm_M_fair 68 lv [] hp (some (.int res.1)) res.2 := by
  intro n
  induction n with
  | zero =>
    intro v3 v4 v6 v7 hp lv res hS hk h
    cases h
  | succ n ih =>
    intro v3 v4 v6 v7 hp lv res hS hk h
    have h : fb_M_fair_L68 v1 v2 (fn_M_fair_L68 v1 v2 n) v3 v4 v6 v7 hp = some res := h
    unfold fb_M_fair_L68 at h
    refine py_il (pc := 68) (len := 2) (j := 7) rfl hk rfl ?_
    refine py_its (pc := 70) (pc1 := 71) (lv1 := lv) (st1 := [.int (Int32.ofInt 4), .int v7]) 1 (fun _ _ _ _ => rfl) ?_
    cases hb15 : px_cmp .ge v7 (Int32.ofInt 4) with
    | true =>
      have h := cd_t hb15 h
      refine py_ic (pc := 71) (len := 3) true rfl hb15 ?_
      refine py_aln (pc := 156) (len := 1) (j := 0) rfl hk rfl ?_
      refine py_its (pc := 157) (pc1 := 158) (lv1 := lv) (st1 := [.int (Int32.ofInt 0), .ref 69]) 1 (fun _ _ _ _ => rfl) ?_
      have h := sb_e h
      refine py_pI (pc := 158) (len := 3) (cs := [69]) rfl rfl rfl List.mem_cons_self hS rfl rfl rfl rfl ?_
      have hS17 : oS (wF hp 69 15 (.int (Int32.ofInt 0))) := oS_wI (cs := [69]) (ci := 9) rfl List.mem_cons_self hS
      generalize (wF hp 69 15 (.int (Int32.ofInt 0))) = h16 at h hS17 ⊢
      refine py_il (pc := 161) (len := 2) (j := 6) rfl hk rfl ?_
      cases hb18 : px_cmp .ne v6 0 with
      | true =>
        have h := cd_t hb18 h
        refine py_if (pc := 163) (len := 3) true rfl hb18 ?_
        refine py_aln (pc := 169) (len := 1) (j := 0) rfl hk rfl ?_
        refine py_its (pc := 170) (pc1 := 171) (lv1 := lv) (st1 := [.int (Int32.ofInt 0), .ref 69]) 1 (fun _ _ _ _ => rfl) ?_
        have h := sb_e h
        refine py_pI (pc := 171) (len := 3) (cs := [69]) rfl rfl rfl List.mem_cons_self hS17 rfl rfl rfl rfl ?_
        have hS20 : oS (wF h16 69 1 (.int (Int32.ofInt 0))) := oS_wI (cs := [69]) (ci := 9) rfl List.mem_cons_self hS17
        generalize (wF h16 69 1 (.int (Int32.ofInt 0))) = h19 at h hS20 ⊢
        refine py_aln (pc := 174) (len := 1) (j := 0) rfl hk rfl ?_
        refine py_ll (pc := 175) (len := 2) (j := 4) rfl hk rfl ?_
        obtain ⟨q21, hq22, h⟩ := bd_e h
        obtain ⟨hC23, hS24⟩ := fx_M_enters hS20 hq22
        refine py_vi (pc := 177) (mi := mi_M_enters) (cs := [69]) (N := mm_M_enters) rfl rfl rfl rfl List.mem_cons_self hS20 rfl (Nat.le_of_ble_eq_true rfl) (Nat.le_of_ble_eq_true rfl) rfl rfl hC23 ?_
        show px_Y mm_M_fair 180 lv [] q21 _ _
        refine py_iln (pc := 180) (len := 1) (j := 3) rfl hk rfl ?_
        cases hb25 : px_cmp .ne v3 0 with
        | true =>
          have h := cd_t hb25 h
          refine py_if (pc := 181) (len := 3) true rfl hb25 ?_
          refine py_iln (pc := 188) (len := 1) (j := 3) rfl hk rfl ?_
          refine py_its (pc := 189) (pc1 := 191) (lv1 := lv) (st1 := [.int (v3 - (Int32.ofInt 1))]) 2 (fun _ _ _ _ => rfl) ?_
          have h := Option.some.inj h
          subst h
          exact py_ir (pc := 191) (len := 1) (ty := .int) rfl rfl rfl hS24
        | false =>
          have h := cd_f hb25 h
          refine py_if (pc := 181) (len := 3) false rfl hb25 ?_
          refine py_its (pc := 184) (pc1 := 191) (lv1 := lv) (st1 := [.int (Int32.ofInt 3)]) 2 (fun _ _ _ _ => rfl) ?_
          have h := Option.some.inj h
          subst h
          exact py_ir (pc := 191) (len := 1) (ty := .int) rfl rfl rfl hS24
      | false =>
        have h := cd_f hb18 h
        refine py_if (pc := 163) (len := 3) false rfl hb18 ?_
        refine py_its (pc := 166) (pc1 := 168) (lv1 := lv) (st1 := [.int (Int8.ofInt (-3)).toInt32]) 1 (fun _ _ _ _ => rfl) ?_
        have h := Option.some.inj h
        subst h
        exact py_ir (pc := 168) (len := 1) (ty := .int) rfl rfl rfl hS17
    | false =>
      have h := cd_f hb15 h
      refine py_ic (pc := 71) (len := 3) false rfl hb15 ?_
      refine py_il (pc := 74) (len := 2) (j := 6) rfl hk rfl ?_
      cases hb26 : px_cmp .eq v6 0 with
      | true =>
        have h := cd_t hb26 h
        refine py_if (pc := 76) (len := 3) true rfl hb26 ?_
        refine py_aln (pc := 156) (len := 1) (j := 0) rfl hk rfl ?_
        refine py_its (pc := 157) (pc1 := 158) (lv1 := lv) (st1 := [.int (Int32.ofInt 0), .ref 69]) 1 (fun _ _ _ _ => rfl) ?_
        have h := sb_e h
        refine py_pI (pc := 158) (len := 3) (cs := [69]) rfl rfl rfl List.mem_cons_self hS rfl rfl rfl rfl ?_
        have hS28 : oS (wF hp 69 15 (.int (Int32.ofInt 0))) := oS_wI (cs := [69]) (ci := 9) rfl List.mem_cons_self hS
        generalize (wF hp 69 15 (.int (Int32.ofInt 0))) = h27 at h hS28 ⊢
        refine py_il (pc := 161) (len := 2) (j := 6) rfl hk rfl ?_
        cases hb29 : px_cmp .ne v6 0 with
        | true =>
          have h := cd_t hb29 h
          refine py_if (pc := 163) (len := 3) true rfl hb29 ?_
          refine py_aln (pc := 169) (len := 1) (j := 0) rfl hk rfl ?_
          refine py_its (pc := 170) (pc1 := 171) (lv1 := lv) (st1 := [.int (Int32.ofInt 0), .ref 69]) 1 (fun _ _ _ _ => rfl) ?_
          have h := sb_e h
          refine py_pI (pc := 171) (len := 3) (cs := [69]) rfl rfl rfl List.mem_cons_self hS28 rfl rfl rfl rfl ?_
          have hS31 : oS (wF h27 69 1 (.int (Int32.ofInt 0))) := oS_wI (cs := [69]) (ci := 9) rfl List.mem_cons_self hS28
          generalize (wF h27 69 1 (.int (Int32.ofInt 0))) = h30 at h hS31 ⊢
          refine py_aln (pc := 174) (len := 1) (j := 0) rfl hk rfl ?_
          refine py_ll (pc := 175) (len := 2) (j := 4) rfl hk rfl ?_
          obtain ⟨q32, hq33, h⟩ := bd_e h
          obtain ⟨hC34, hS35⟩ := fx_M_enters hS31 hq33
          refine py_vi (pc := 177) (mi := mi_M_enters) (cs := [69]) (N := mm_M_enters) rfl rfl rfl rfl List.mem_cons_self hS31 rfl (Nat.le_of_ble_eq_true rfl) (Nat.le_of_ble_eq_true rfl) rfl rfl hC34 ?_
          show px_Y mm_M_fair 180 lv [] q32 _ _
          refine py_iln (pc := 180) (len := 1) (j := 3) rfl hk rfl ?_
          cases hb36 : px_cmp .ne v3 0 with
          | true =>
            have h := cd_t hb36 h
            refine py_if (pc := 181) (len := 3) true rfl hb36 ?_
            refine py_iln (pc := 188) (len := 1) (j := 3) rfl hk rfl ?_
            refine py_its (pc := 189) (pc1 := 191) (lv1 := lv) (st1 := [.int (v3 - (Int32.ofInt 1))]) 2 (fun _ _ _ _ => rfl) ?_
            have h := Option.some.inj h
            subst h
            exact py_ir (pc := 191) (len := 1) (ty := .int) rfl rfl rfl hS35
          | false =>
            have h := cd_f hb36 h
            refine py_if (pc := 181) (len := 3) false rfl hb36 ?_
            refine py_its (pc := 184) (pc1 := 191) (lv1 := lv) (st1 := [.int (Int32.ofInt 3)]) 2 (fun _ _ _ _ => rfl) ?_
            have h := Option.some.inj h
            subst h
            exact py_ir (pc := 191) (len := 1) (ty := .int) rfl rfl rfl hS35
        | false =>
          have h := cd_f hb29 h
          refine py_if (pc := 163) (len := 3) false rfl hb29 ?_
          refine py_its (pc := 166) (pc1 := 168) (lv1 := lv) (st1 := [.int (Int8.ofInt (-3)).toInt32]) 1 (fun _ _ _ _ => rfl) ?_
          have h := Option.some.inj h
          subst h
          exact py_ir (pc := 168) (len := 1) (ty := .int) rfl rfl rfl hS28
      | false =>
        have h := cd_f hb26 h
        refine py_if (pc := 76) (len := 3) false rfl hb26 ?_
        refine py_il (pc := 79) (len := 2) (j := 7) rfl hk rfl ?_
        cases hb37 : px_cmp .le v7 0 with
        | true =>
          have h := cd_t hb37 h
          refine py_if (pc := 81) (len := 3) true rfl hb37 ?_
          refine py_aln (pc := 97) (len := 1) (j := 0) rfl hk rfl ?_
          refine py_il (pc := 98) (len := 2) (j := 7) rfl hk rfl ?_
          have h := sb_e h
          refine py_pI (pc := 100) (len := 3) (cs := [69]) rfl rfl rfl List.mem_cons_self hS rfl rfl rfl rfl ?_
          have hS39 : oS (wF hp 69 15 (.int v7)) := oS_wI (cs := [69]) (ci := 9) rfl List.mem_cons_self hS
          generalize (wF hp 69 15 (.int v7)) = h38 at h hS39 ⊢
          refine py_aln (pc := 103) (len := 1) (j := 0) rfl hk rfl ?_
          refine py_iln (pc := 104) (len := 1) (j := 2) rfl hk rfl ?_
          obtain ⟨q40, hq41, h⟩ := bd_e h
          obtain ⟨hC42, hS43⟩ := fx_M_asks hS39 hq41
          refine py_vi (pc := 105) (mi := mi_M_asks) (cs := [69]) (N := mm_M_asks) rfl rfl rfl rfl List.mem_cons_self hS39 rfl (Nat.le_of_ble_eq_true rfl) (Nat.le_of_ble_eq_true rfl) rfl rfl hC42 ?_
          show px_Y mm_M_fair 108 lv [.int q40.1] q40.2 _ _
          refine py_sti (pc := 108) (len := 2) (j := 6) rfl rfl hk (fun lv44 hk45 => ?_)
          have hk45 : lk lv44 [(6, .int q40.1), (0, .ref 69), (1, .int v1), (2, .int v2), (3, .int v3), (4, .long v4), (7, .int v7)] := hk45
          refine py_il (pc := 110) (len := 2) (j := 6) rfl hk45 rfl ?_
          cases hb46 : px_cmp .eq q40.1 0 with
          | true =>
            have h := cd_t hb46 h
            refine py_if (pc := 112) (len := 3) true rfl hb46 ?_
            refine py_its (pc := 123) (pc1 := 124) (lv1 := lv44) (st1 := [.long (Int64.ofNat 0)]) 1 (fun _ _ _ _ => rfl) ?_
            refine py_stl (pc := 124) (len := 2) (j := 8) rfl rfl hk45 (fun lv47 hk48 => ?_)
            have hk48 : lk lv47 [(8, .long (Int64.ofNat 0)), (6, .int q40.1), (0, .ref 69), (1, .int v1), (2, .int v2), (3, .int v3), (4, .long v4), (7, .int v7)] := hk48
            refine py_il (pc := 126) (len := 2) (j := 6) rfl hk48 rfl ?_
            cases hb49 : px_cmp .eq q40.1 0 with
            | true =>
              have h := cd_t hb49 h
              refine py_if (pc := 128) (len := 3) true rfl hb49 ?_
              refine py_inc (pc := 150) (len := 3) (j := 7) (n := 1) rfl rfl hk48 rfl (fun lv50 hk51 => ?_)
              have hk51 : lk lv50 [(7, .int (v7 + Int32.ofInt 1)), (8, .long (Int64.ofNat 0)), (6, .int q40.1), (0, .ref 69), (1, .int v1), (2, .int v2), (3, .int v3), (4, .long v4)] := hk51
              refine py_its (pc := 153) (pc1 := 68) (lv1 := lv50) (st1 := []) 1 (fun _ _ _ _ => rfl) ?_
              exact ih v3 v4 q40.1 (v7 + Int32.ofInt 1) q40.2 lv50 _ hS43 ⟨lk_find hk51 rfl, lk_find hk51 rfl, lk_find hk51 rfl, lk_find hk51 rfl, lk_find hk51 rfl, lk_find hk51 rfl, lk_find hk51 rfl, trivial⟩ h
            | false =>
              have h := cd_f hb49 h
              refine py_if (pc := 128) (len := 3) false rfl hb49 ?_
              refine py_iln (pc := 131) (len := 1) (j := 3) rfl hk48 rfl ?_
              cases hb52 : px_cmp .lt v3 0 with
              | true =>
                have h := cd_t hb52 h
                refine py_if (pc := 132) (len := 3) true rfl hb52 ?_
                refine py_il (pc := 143) (len := 2) (j := 7) rfl hk48 rfl ?_
                refine py_sin (pc := 145) (len := 1) (j := 3) rfl rfl hk48 (fun lv53 hk54 => ?_)
                have hk54 : lk lv53 [(3, .int v7), (8, .long (Int64.ofNat 0)), (6, .int q40.1), (0, .ref 69), (1, .int v1), (2, .int v2), (4, .long v4), (7, .int v7)] := hk54
                refine py_ll (pc := 146) (len := 2) (j := 8) rfl hk54 rfl ?_
                refine py_stl (pc := 148) (len := 2) (j := 4) rfl rfl hk54 (fun lv55 hk56 => ?_)
                have hk56 : lk lv55 [(4, .long (Int64.ofNat 0)), (3, .int v7), (8, .long (Int64.ofNat 0)), (6, .int q40.1), (0, .ref 69), (1, .int v1), (2, .int v2), (7, .int v7)] := hk56
                refine py_inc (pc := 150) (len := 3) (j := 7) (n := 1) rfl rfl hk56 rfl (fun lv57 hk58 => ?_)
                have hk58 : lk lv57 [(7, .int (v7 + Int32.ofInt 1)), (4, .long (Int64.ofNat 0)), (3, .int v7), (8, .long (Int64.ofNat 0)), (6, .int q40.1), (0, .ref 69), (1, .int v1), (2, .int v2)] := hk58
                refine py_its (pc := 153) (pc1 := 68) (lv1 := lv57) (st1 := []) 1 (fun _ _ _ _ => rfl) ?_
                exact ih v7 (Int64.ofNat 0) q40.1 (v7 + Int32.ofInt 1) q40.2 lv57 _ hS43 ⟨lk_find hk58 rfl, lk_find hk58 rfl, lk_find hk58 rfl, lk_find hk58 rfl, lk_find hk58 rfl, lk_find hk58 rfl, lk_find hk58 rfl, trivial⟩ h
              | false =>
                have h := cd_f hb52 h
                refine py_if (pc := 132) (len := 3) false rfl hb52 ?_
                refine py_ll (pc := 135) (len := 2) (j := 8) rfl hk48 rfl ?_
                refine py_ll (pc := 137) (len := 2) (j := 4) rfl hk48 rfl ?_
                cases hb59 : px_cmp .ge (lg_cmp (Int64.ofNat 0) v4) 0 with
                | true =>
                  have h := cd_t hb59 h
                  refine py_lc (pc := 139) (len := 1) true rfl rfl hb59 ?_
                  refine py_inc (pc := 150) (len := 3) (j := 7) (n := 1) rfl rfl hk48 rfl (fun lv60 hk61 => ?_)
                  have hk61 : lk lv60 [(7, .int (v7 + Int32.ofInt 1)), (8, .long (Int64.ofNat 0)), (6, .int q40.1), (0, .ref 69), (1, .int v1), (2, .int v2), (3, .int v3), (4, .long v4)] := hk61
                  refine py_its (pc := 153) (pc1 := 68) (lv1 := lv60) (st1 := []) 1 (fun _ _ _ _ => rfl) ?_
                  exact ih v3 v4 q40.1 (v7 + Int32.ofInt 1) q40.2 lv60 _ hS43 ⟨lk_find hk61 rfl, lk_find hk61 rfl, lk_find hk61 rfl, lk_find hk61 rfl, lk_find hk61 rfl, lk_find hk61 rfl, lk_find hk61 rfl, trivial⟩ h
                | false =>
                  have h := cd_f hb59 h
                  refine py_lc (pc := 139) (len := 1) false rfl rfl hb59 ?_
                  refine py_il (pc := 143) (len := 2) (j := 7) rfl hk48 rfl ?_
                  refine py_sin (pc := 145) (len := 1) (j := 3) rfl rfl hk48 (fun lv62 hk63 => ?_)
                  have hk63 : lk lv62 [(3, .int v7), (8, .long (Int64.ofNat 0)), (6, .int q40.1), (0, .ref 69), (1, .int v1), (2, .int v2), (4, .long v4), (7, .int v7)] := hk63
                  refine py_ll (pc := 146) (len := 2) (j := 8) rfl hk63 rfl ?_
                  refine py_stl (pc := 148) (len := 2) (j := 4) rfl rfl hk63 (fun lv64 hk65 => ?_)
                  have hk65 : lk lv64 [(4, .long (Int64.ofNat 0)), (3, .int v7), (8, .long (Int64.ofNat 0)), (6, .int q40.1), (0, .ref 69), (1, .int v1), (2, .int v2), (7, .int v7)] := hk65
                  refine py_inc (pc := 150) (len := 3) (j := 7) (n := 1) rfl rfl hk65 rfl (fun lv66 hk67 => ?_)
                  have hk67 : lk lv66 [(7, .int (v7 + Int32.ofInt 1)), (4, .long (Int64.ofNat 0)), (3, .int v7), (8, .long (Int64.ofNat 0)), (6, .int q40.1), (0, .ref 69), (1, .int v1), (2, .int v2)] := hk67
                  refine py_its (pc := 153) (pc1 := 68) (lv1 := lv66) (st1 := []) 1 (fun _ _ _ _ => rfl) ?_
                  exact ih v7 (Int64.ofNat 0) q40.1 (v7 + Int32.ofInt 1) q40.2 lv66 _ hS43 ⟨lk_find hk67 rfl, lk_find hk67 rfl, lk_find hk67 rfl, lk_find hk67 rfl, lk_find hk67 rfl, lk_find hk67 rfl, lk_find hk67 rfl, trivial⟩ h
          | false =>
            have h := cd_f hb46 h
            refine py_if (pc := 112) (len := 3) false rfl hb46 ?_
            refine py_aln (pc := 115) (len := 1) (j := 0) rfl hk45 rfl ?_
            refine py_iln (pc := 116) (len := 1) (j := 1) rfl hk45 rfl ?_
            obtain ⟨q68, hq69, h⟩ := bd_e h
            have hC70 := (fx_M_unlike hS43 hq69).1
            refine py_vi (pc := 117) (mi := mi_M_unlike) (cs := [69]) (N := mm_M_unlike) rfl rfl rfl rfl List.mem_cons_self hS43 rfl (Nat.le_of_ble_eq_true rfl) (Nat.le_of_ble_eq_true rfl) rfl rfl hC70 ?_
            show px_Y mm_M_fair 120 lv44 [.long q68] q40.2 _ _
            refine py_its (pc := 120) (pc1 := 124) (lv1 := lv44) (st1 := [.long q68]) 1 (fun _ _ _ _ => rfl) ?_
            refine py_stl (pc := 124) (len := 2) (j := 8) rfl rfl hk45 (fun lv71 hk72 => ?_)
            have hk72 : lk lv71 [(8, .long q68), (6, .int q40.1), (0, .ref 69), (1, .int v1), (2, .int v2), (3, .int v3), (4, .long v4), (7, .int v7)] := hk72
            refine py_il (pc := 126) (len := 2) (j := 6) rfl hk72 rfl ?_
            cases hb73 : px_cmp .eq q40.1 0 with
            | true =>
              have h := cd_t hb73 h
              refine py_if (pc := 128) (len := 3) true rfl hb73 ?_
              refine py_inc (pc := 150) (len := 3) (j := 7) (n := 1) rfl rfl hk72 rfl (fun lv74 hk75 => ?_)
              have hk75 : lk lv74 [(7, .int (v7 + Int32.ofInt 1)), (8, .long q68), (6, .int q40.1), (0, .ref 69), (1, .int v1), (2, .int v2), (3, .int v3), (4, .long v4)] := hk75
              refine py_its (pc := 153) (pc1 := 68) (lv1 := lv74) (st1 := []) 1 (fun _ _ _ _ => rfl) ?_
              exact ih v3 v4 q40.1 (v7 + Int32.ofInt 1) q40.2 lv74 _ hS43 ⟨lk_find hk75 rfl, lk_find hk75 rfl, lk_find hk75 rfl, lk_find hk75 rfl, lk_find hk75 rfl, lk_find hk75 rfl, lk_find hk75 rfl, trivial⟩ h
            | false =>
              have h := cd_f hb73 h
              refine py_if (pc := 128) (len := 3) false rfl hb73 ?_
              refine py_iln (pc := 131) (len := 1) (j := 3) rfl hk72 rfl ?_
              cases hb76 : px_cmp .lt v3 0 with
              | true =>
                have h := cd_t hb76 h
                refine py_if (pc := 132) (len := 3) true rfl hb76 ?_
                refine py_il (pc := 143) (len := 2) (j := 7) rfl hk72 rfl ?_
                refine py_sin (pc := 145) (len := 1) (j := 3) rfl rfl hk72 (fun lv77 hk78 => ?_)
                have hk78 : lk lv77 [(3, .int v7), (8, .long q68), (6, .int q40.1), (0, .ref 69), (1, .int v1), (2, .int v2), (4, .long v4), (7, .int v7)] := hk78
                refine py_ll (pc := 146) (len := 2) (j := 8) rfl hk78 rfl ?_
                refine py_stl (pc := 148) (len := 2) (j := 4) rfl rfl hk78 (fun lv79 hk80 => ?_)
                have hk80 : lk lv79 [(4, .long q68), (3, .int v7), (8, .long q68), (6, .int q40.1), (0, .ref 69), (1, .int v1), (2, .int v2), (7, .int v7)] := hk80
                refine py_inc (pc := 150) (len := 3) (j := 7) (n := 1) rfl rfl hk80 rfl (fun lv81 hk82 => ?_)
                have hk82 : lk lv81 [(7, .int (v7 + Int32.ofInt 1)), (4, .long q68), (3, .int v7), (8, .long q68), (6, .int q40.1), (0, .ref 69), (1, .int v1), (2, .int v2)] := hk82
                refine py_its (pc := 153) (pc1 := 68) (lv1 := lv81) (st1 := []) 1 (fun _ _ _ _ => rfl) ?_
                exact ih v7 q68 q40.1 (v7 + Int32.ofInt 1) q40.2 lv81 _ hS43 ⟨lk_find hk82 rfl, lk_find hk82 rfl, lk_find hk82 rfl, lk_find hk82 rfl, lk_find hk82 rfl, lk_find hk82 rfl, lk_find hk82 rfl, trivial⟩ h
              | false =>
                have h := cd_f hb76 h
                refine py_if (pc := 132) (len := 3) false rfl hb76 ?_
                refine py_ll (pc := 135) (len := 2) (j := 8) rfl hk72 rfl ?_
                refine py_ll (pc := 137) (len := 2) (j := 4) rfl hk72 rfl ?_
                cases hb83 : px_cmp .ge (lg_cmp q68 v4) 0 with
                | true =>
                  have h := cd_t hb83 h
                  refine py_lc (pc := 139) (len := 1) true rfl rfl hb83 ?_
                  refine py_inc (pc := 150) (len := 3) (j := 7) (n := 1) rfl rfl hk72 rfl (fun lv84 hk85 => ?_)
                  have hk85 : lk lv84 [(7, .int (v7 + Int32.ofInt 1)), (8, .long q68), (6, .int q40.1), (0, .ref 69), (1, .int v1), (2, .int v2), (3, .int v3), (4, .long v4)] := hk85
                  refine py_its (pc := 153) (pc1 := 68) (lv1 := lv84) (st1 := []) 1 (fun _ _ _ _ => rfl) ?_
                  exact ih v3 v4 q40.1 (v7 + Int32.ofInt 1) q40.2 lv84 _ hS43 ⟨lk_find hk85 rfl, lk_find hk85 rfl, lk_find hk85 rfl, lk_find hk85 rfl, lk_find hk85 rfl, lk_find hk85 rfl, lk_find hk85 rfl, trivial⟩ h
                | false =>
                  have h := cd_f hb83 h
                  refine py_lc (pc := 139) (len := 1) false rfl rfl hb83 ?_
                  refine py_il (pc := 143) (len := 2) (j := 7) rfl hk72 rfl ?_
                  refine py_sin (pc := 145) (len := 1) (j := 3) rfl rfl hk72 (fun lv86 hk87 => ?_)
                  have hk87 : lk lv86 [(3, .int v7), (8, .long q68), (6, .int q40.1), (0, .ref 69), (1, .int v1), (2, .int v2), (4, .long v4), (7, .int v7)] := hk87
                  refine py_ll (pc := 146) (len := 2) (j := 8) rfl hk87 rfl ?_
                  refine py_stl (pc := 148) (len := 2) (j := 4) rfl rfl hk87 (fun lv88 hk89 => ?_)
                  have hk89 : lk lv88 [(4, .long q68), (3, .int v7), (8, .long q68), (6, .int q40.1), (0, .ref 69), (1, .int v1), (2, .int v2), (7, .int v7)] := hk89
                  refine py_inc (pc := 150) (len := 3) (j := 7) (n := 1) rfl rfl hk89 rfl (fun lv90 hk91 => ?_)
                  have hk91 : lk lv90 [(7, .int (v7 + Int32.ofInt 1)), (4, .long q68), (3, .int v7), (8, .long q68), (6, .int q40.1), (0, .ref 69), (1, .int v1), (2, .int v2)] := hk91
                  refine py_its (pc := 153) (pc1 := 68) (lv1 := lv90) (st1 := []) 1 (fun _ _ _ _ => rfl) ?_
                  exact ih v7 q68 q40.1 (v7 + Int32.ofInt 1) q40.2 lv90 _ hS43 ⟨lk_find hk91 rfl, lk_find hk91 rfl, lk_find hk91 rfl, lk_find hk91 rfl, lk_find hk91 rfl, lk_find hk91 rfl, lk_find hk91 rfl, trivial⟩ h
        | false =>
          have h := cd_f hb37 h
          refine py_if (pc := 81) (len := 3) false rfl hb37 ?_
          refine py_aln (pc := 84) (len := 1) (j := 0) rfl hk rfl ?_
          refine py_g1 82 (pc := 85) (len := 3) (cs := [69]) rfl rfl rfl List.mem_cons_self hS ?_
          refine py_il (pc := 88) (len := 2) (j := 7) rfl hk rfl ?_
          obtain ⟨hi92, h⟩ := cd_n h
          refine py_ab (pc := 90) (len := 1) (cs := [82]) (t := 39) (n := 4) rfl rfl rfl hi92 List.mem_cons_self hS ?_
          cases hb93 : px_cmp .ne (aI hp 82 v7.toNatClampNeg) 0 with
          | true =>
            have h := cd_t hb93 h
            refine py_if (pc := 91) (len := 3) true rfl hb93 ?_
            refine py_aln (pc := 97) (len := 1) (j := 0) rfl hk rfl ?_
            refine py_il (pc := 98) (len := 2) (j := 7) rfl hk rfl ?_
            have h := sb_e h
            refine py_pI (pc := 100) (len := 3) (cs := [69]) rfl rfl rfl List.mem_cons_self hS rfl rfl rfl rfl ?_
            have hS95 : oS (wF hp 69 15 (.int v7)) := oS_wI (cs := [69]) (ci := 9) rfl List.mem_cons_self hS
            generalize (wF hp 69 15 (.int v7)) = h94 at h hS95 ⊢
            refine py_aln (pc := 103) (len := 1) (j := 0) rfl hk rfl ?_
            refine py_iln (pc := 104) (len := 1) (j := 2) rfl hk rfl ?_
            obtain ⟨q96, hq97, h⟩ := bd_e h
            obtain ⟨hC98, hS99⟩ := fx_M_asks hS95 hq97
            refine py_vi (pc := 105) (mi := mi_M_asks) (cs := [69]) (N := mm_M_asks) rfl rfl rfl rfl List.mem_cons_self hS95 rfl (Nat.le_of_ble_eq_true rfl) (Nat.le_of_ble_eq_true rfl) rfl rfl hC98 ?_
            show px_Y mm_M_fair 108 lv [.int q96.1] q96.2 _ _
            refine py_sti (pc := 108) (len := 2) (j := 6) rfl rfl hk (fun lv100 hk101 => ?_)
            have hk101 : lk lv100 [(6, .int q96.1), (0, .ref 69), (1, .int v1), (2, .int v2), (3, .int v3), (4, .long v4), (7, .int v7)] := hk101
            refine py_il (pc := 110) (len := 2) (j := 6) rfl hk101 rfl ?_
            cases hb102 : px_cmp .eq q96.1 0 with
            | true =>
              have h := cd_t hb102 h
              refine py_if (pc := 112) (len := 3) true rfl hb102 ?_
              refine py_its (pc := 123) (pc1 := 124) (lv1 := lv100) (st1 := [.long (Int64.ofNat 0)]) 1 (fun _ _ _ _ => rfl) ?_
              refine py_stl (pc := 124) (len := 2) (j := 8) rfl rfl hk101 (fun lv103 hk104 => ?_)
              have hk104 : lk lv103 [(8, .long (Int64.ofNat 0)), (6, .int q96.1), (0, .ref 69), (1, .int v1), (2, .int v2), (3, .int v3), (4, .long v4), (7, .int v7)] := hk104
              refine py_il (pc := 126) (len := 2) (j := 6) rfl hk104 rfl ?_
              cases hb105 : px_cmp .eq q96.1 0 with
              | true =>
                have h := cd_t hb105 h
                refine py_if (pc := 128) (len := 3) true rfl hb105 ?_
                refine py_inc (pc := 150) (len := 3) (j := 7) (n := 1) rfl rfl hk104 rfl (fun lv106 hk107 => ?_)
                have hk107 : lk lv106 [(7, .int (v7 + Int32.ofInt 1)), (8, .long (Int64.ofNat 0)), (6, .int q96.1), (0, .ref 69), (1, .int v1), (2, .int v2), (3, .int v3), (4, .long v4)] := hk107
                refine py_its (pc := 153) (pc1 := 68) (lv1 := lv106) (st1 := []) 1 (fun _ _ _ _ => rfl) ?_
                exact ih v3 v4 q96.1 (v7 + Int32.ofInt 1) q96.2 lv106 _ hS99 ⟨lk_find hk107 rfl, lk_find hk107 rfl, lk_find hk107 rfl, lk_find hk107 rfl, lk_find hk107 rfl, lk_find hk107 rfl, lk_find hk107 rfl, trivial⟩ h
              | false =>
                have h := cd_f hb105 h
                refine py_if (pc := 128) (len := 3) false rfl hb105 ?_
                refine py_iln (pc := 131) (len := 1) (j := 3) rfl hk104 rfl ?_
                cases hb108 : px_cmp .lt v3 0 with
                | true =>
                  have h := cd_t hb108 h
                  refine py_if (pc := 132) (len := 3) true rfl hb108 ?_
                  refine py_il (pc := 143) (len := 2) (j := 7) rfl hk104 rfl ?_
                  refine py_sin (pc := 145) (len := 1) (j := 3) rfl rfl hk104 (fun lv109 hk110 => ?_)
                  have hk110 : lk lv109 [(3, .int v7), (8, .long (Int64.ofNat 0)), (6, .int q96.1), (0, .ref 69), (1, .int v1), (2, .int v2), (4, .long v4), (7, .int v7)] := hk110
                  refine py_ll (pc := 146) (len := 2) (j := 8) rfl hk110 rfl ?_
                  refine py_stl (pc := 148) (len := 2) (j := 4) rfl rfl hk110 (fun lv111 hk112 => ?_)
                  have hk112 : lk lv111 [(4, .long (Int64.ofNat 0)), (3, .int v7), (8, .long (Int64.ofNat 0)), (6, .int q96.1), (0, .ref 69), (1, .int v1), (2, .int v2), (7, .int v7)] := hk112
                  refine py_inc (pc := 150) (len := 3) (j := 7) (n := 1) rfl rfl hk112 rfl (fun lv113 hk114 => ?_)
                  have hk114 : lk lv113 [(7, .int (v7 + Int32.ofInt 1)), (4, .long (Int64.ofNat 0)), (3, .int v7), (8, .long (Int64.ofNat 0)), (6, .int q96.1), (0, .ref 69), (1, .int v1), (2, .int v2)] := hk114
                  refine py_its (pc := 153) (pc1 := 68) (lv1 := lv113) (st1 := []) 1 (fun _ _ _ _ => rfl) ?_
                  exact ih v7 (Int64.ofNat 0) q96.1 (v7 + Int32.ofInt 1) q96.2 lv113 _ hS99 ⟨lk_find hk114 rfl, lk_find hk114 rfl, lk_find hk114 rfl, lk_find hk114 rfl, lk_find hk114 rfl, lk_find hk114 rfl, lk_find hk114 rfl, trivial⟩ h
                | false =>
                  have h := cd_f hb108 h
                  refine py_if (pc := 132) (len := 3) false rfl hb108 ?_
                  refine py_ll (pc := 135) (len := 2) (j := 8) rfl hk104 rfl ?_
                  refine py_ll (pc := 137) (len := 2) (j := 4) rfl hk104 rfl ?_
                  cases hb115 : px_cmp .ge (lg_cmp (Int64.ofNat 0) v4) 0 with
                  | true =>
                    have h := cd_t hb115 h
                    refine py_lc (pc := 139) (len := 1) true rfl rfl hb115 ?_
                    refine py_inc (pc := 150) (len := 3) (j := 7) (n := 1) rfl rfl hk104 rfl (fun lv116 hk117 => ?_)
                    have hk117 : lk lv116 [(7, .int (v7 + Int32.ofInt 1)), (8, .long (Int64.ofNat 0)), (6, .int q96.1), (0, .ref 69), (1, .int v1), (2, .int v2), (3, .int v3), (4, .long v4)] := hk117
                    refine py_its (pc := 153) (pc1 := 68) (lv1 := lv116) (st1 := []) 1 (fun _ _ _ _ => rfl) ?_
                    exact ih v3 v4 q96.1 (v7 + Int32.ofInt 1) q96.2 lv116 _ hS99 ⟨lk_find hk117 rfl, lk_find hk117 rfl, lk_find hk117 rfl, lk_find hk117 rfl, lk_find hk117 rfl, lk_find hk117 rfl, lk_find hk117 rfl, trivial⟩ h
                  | false =>
                    have h := cd_f hb115 h
                    refine py_lc (pc := 139) (len := 1) false rfl rfl hb115 ?_
                    refine py_il (pc := 143) (len := 2) (j := 7) rfl hk104 rfl ?_
                    refine py_sin (pc := 145) (len := 1) (j := 3) rfl rfl hk104 (fun lv118 hk119 => ?_)
                    have hk119 : lk lv118 [(3, .int v7), (8, .long (Int64.ofNat 0)), (6, .int q96.1), (0, .ref 69), (1, .int v1), (2, .int v2), (4, .long v4), (7, .int v7)] := hk119
                    refine py_ll (pc := 146) (len := 2) (j := 8) rfl hk119 rfl ?_
                    refine py_stl (pc := 148) (len := 2) (j := 4) rfl rfl hk119 (fun lv120 hk121 => ?_)
                    have hk121 : lk lv120 [(4, .long (Int64.ofNat 0)), (3, .int v7), (8, .long (Int64.ofNat 0)), (6, .int q96.1), (0, .ref 69), (1, .int v1), (2, .int v2), (7, .int v7)] := hk121
                    refine py_inc (pc := 150) (len := 3) (j := 7) (n := 1) rfl rfl hk121 rfl (fun lv122 hk123 => ?_)
                    have hk123 : lk lv122 [(7, .int (v7 + Int32.ofInt 1)), (4, .long (Int64.ofNat 0)), (3, .int v7), (8, .long (Int64.ofNat 0)), (6, .int q96.1), (0, .ref 69), (1, .int v1), (2, .int v2)] := hk123
                    refine py_its (pc := 153) (pc1 := 68) (lv1 := lv122) (st1 := []) 1 (fun _ _ _ _ => rfl) ?_
                    exact ih v7 (Int64.ofNat 0) q96.1 (v7 + Int32.ofInt 1) q96.2 lv122 _ hS99 ⟨lk_find hk123 rfl, lk_find hk123 rfl, lk_find hk123 rfl, lk_find hk123 rfl, lk_find hk123 rfl, lk_find hk123 rfl, lk_find hk123 rfl, trivial⟩ h
            | false =>
              have h := cd_f hb102 h
              refine py_if (pc := 112) (len := 3) false rfl hb102 ?_
              refine py_aln (pc := 115) (len := 1) (j := 0) rfl hk101 rfl ?_
              refine py_iln (pc := 116) (len := 1) (j := 1) rfl hk101 rfl ?_
              obtain ⟨q124, hq125, h⟩ := bd_e h
              have hC126 := (fx_M_unlike hS99 hq125).1
              refine py_vi (pc := 117) (mi := mi_M_unlike) (cs := [69]) (N := mm_M_unlike) rfl rfl rfl rfl List.mem_cons_self hS99 rfl (Nat.le_of_ble_eq_true rfl) (Nat.le_of_ble_eq_true rfl) rfl rfl hC126 ?_
              show px_Y mm_M_fair 120 lv100 [.long q124] q96.2 _ _
              refine py_its (pc := 120) (pc1 := 124) (lv1 := lv100) (st1 := [.long q124]) 1 (fun _ _ _ _ => rfl) ?_
              refine py_stl (pc := 124) (len := 2) (j := 8) rfl rfl hk101 (fun lv127 hk128 => ?_)
              have hk128 : lk lv127 [(8, .long q124), (6, .int q96.1), (0, .ref 69), (1, .int v1), (2, .int v2), (3, .int v3), (4, .long v4), (7, .int v7)] := hk128
              refine py_il (pc := 126) (len := 2) (j := 6) rfl hk128 rfl ?_
              cases hb129 : px_cmp .eq q96.1 0 with
              | true =>
                have h := cd_t hb129 h
                refine py_if (pc := 128) (len := 3) true rfl hb129 ?_
                refine py_inc (pc := 150) (len := 3) (j := 7) (n := 1) rfl rfl hk128 rfl (fun lv130 hk131 => ?_)
                have hk131 : lk lv130 [(7, .int (v7 + Int32.ofInt 1)), (8, .long q124), (6, .int q96.1), (0, .ref 69), (1, .int v1), (2, .int v2), (3, .int v3), (4, .long v4)] := hk131
                refine py_its (pc := 153) (pc1 := 68) (lv1 := lv130) (st1 := []) 1 (fun _ _ _ _ => rfl) ?_
                exact ih v3 v4 q96.1 (v7 + Int32.ofInt 1) q96.2 lv130 _ hS99 ⟨lk_find hk131 rfl, lk_find hk131 rfl, lk_find hk131 rfl, lk_find hk131 rfl, lk_find hk131 rfl, lk_find hk131 rfl, lk_find hk131 rfl, trivial⟩ h
              | false =>
                have h := cd_f hb129 h
                refine py_if (pc := 128) (len := 3) false rfl hb129 ?_
                refine py_iln (pc := 131) (len := 1) (j := 3) rfl hk128 rfl ?_
                cases hb132 : px_cmp .lt v3 0 with
                | true =>
                  have h := cd_t hb132 h
                  refine py_if (pc := 132) (len := 3) true rfl hb132 ?_
                  refine py_il (pc := 143) (len := 2) (j := 7) rfl hk128 rfl ?_
                  refine py_sin (pc := 145) (len := 1) (j := 3) rfl rfl hk128 (fun lv133 hk134 => ?_)
                  have hk134 : lk lv133 [(3, .int v7), (8, .long q124), (6, .int q96.1), (0, .ref 69), (1, .int v1), (2, .int v2), (4, .long v4), (7, .int v7)] := hk134
                  refine py_ll (pc := 146) (len := 2) (j := 8) rfl hk134 rfl ?_
                  refine py_stl (pc := 148) (len := 2) (j := 4) rfl rfl hk134 (fun lv135 hk136 => ?_)
                  have hk136 : lk lv135 [(4, .long q124), (3, .int v7), (8, .long q124), (6, .int q96.1), (0, .ref 69), (1, .int v1), (2, .int v2), (7, .int v7)] := hk136
                  refine py_inc (pc := 150) (len := 3) (j := 7) (n := 1) rfl rfl hk136 rfl (fun lv137 hk138 => ?_)
                  have hk138 : lk lv137 [(7, .int (v7 + Int32.ofInt 1)), (4, .long q124), (3, .int v7), (8, .long q124), (6, .int q96.1), (0, .ref 69), (1, .int v1), (2, .int v2)] := hk138
                  refine py_its (pc := 153) (pc1 := 68) (lv1 := lv137) (st1 := []) 1 (fun _ _ _ _ => rfl) ?_
                  exact ih v7 q124 q96.1 (v7 + Int32.ofInt 1) q96.2 lv137 _ hS99 ⟨lk_find hk138 rfl, lk_find hk138 rfl, lk_find hk138 rfl, lk_find hk138 rfl, lk_find hk138 rfl, lk_find hk138 rfl, lk_find hk138 rfl, trivial⟩ h
                | false =>
                  have h := cd_f hb132 h
                  refine py_if (pc := 132) (len := 3) false rfl hb132 ?_
                  refine py_ll (pc := 135) (len := 2) (j := 8) rfl hk128 rfl ?_
                  refine py_ll (pc := 137) (len := 2) (j := 4) rfl hk128 rfl ?_
                  cases hb139 : px_cmp .ge (lg_cmp q124 v4) 0 with
                  | true =>
                    have h := cd_t hb139 h
                    refine py_lc (pc := 139) (len := 1) true rfl rfl hb139 ?_
                    refine py_inc (pc := 150) (len := 3) (j := 7) (n := 1) rfl rfl hk128 rfl (fun lv140 hk141 => ?_)
                    have hk141 : lk lv140 [(7, .int (v7 + Int32.ofInt 1)), (8, .long q124), (6, .int q96.1), (0, .ref 69), (1, .int v1), (2, .int v2), (3, .int v3), (4, .long v4)] := hk141
                    refine py_its (pc := 153) (pc1 := 68) (lv1 := lv140) (st1 := []) 1 (fun _ _ _ _ => rfl) ?_
                    exact ih v3 v4 q96.1 (v7 + Int32.ofInt 1) q96.2 lv140 _ hS99 ⟨lk_find hk141 rfl, lk_find hk141 rfl, lk_find hk141 rfl, lk_find hk141 rfl, lk_find hk141 rfl, lk_find hk141 rfl, lk_find hk141 rfl, trivial⟩ h
                  | false =>
                    have h := cd_f hb139 h
                    refine py_lc (pc := 139) (len := 1) false rfl rfl hb139 ?_
                    refine py_il (pc := 143) (len := 2) (j := 7) rfl hk128 rfl ?_
                    refine py_sin (pc := 145) (len := 1) (j := 3) rfl rfl hk128 (fun lv142 hk143 => ?_)
                    have hk143 : lk lv142 [(3, .int v7), (8, .long q124), (6, .int q96.1), (0, .ref 69), (1, .int v1), (2, .int v2), (4, .long v4), (7, .int v7)] := hk143
                    refine py_ll (pc := 146) (len := 2) (j := 8) rfl hk143 rfl ?_
                    refine py_stl (pc := 148) (len := 2) (j := 4) rfl rfl hk143 (fun lv144 hk145 => ?_)
                    have hk145 : lk lv144 [(4, .long q124), (3, .int v7), (8, .long q124), (6, .int q96.1), (0, .ref 69), (1, .int v1), (2, .int v2), (7, .int v7)] := hk145
                    refine py_inc (pc := 150) (len := 3) (j := 7) (n := 1) rfl rfl hk145 rfl (fun lv146 hk147 => ?_)
                    have hk147 : lk lv146 [(7, .int (v7 + Int32.ofInt 1)), (4, .long q124), (3, .int v7), (8, .long q124), (6, .int q96.1), (0, .ref 69), (1, .int v1), (2, .int v2)] := hk147
                    refine py_its (pc := 153) (pc1 := 68) (lv1 := lv146) (st1 := []) 1 (fun _ _ _ _ => rfl) ?_
                    exact ih v7 q124 q96.1 (v7 + Int32.ofInt 1) q96.2 lv146 _ hS99 ⟨lk_find hk147 rfl, lk_find hk147 rfl, lk_find hk147 rfl, lk_find hk147 rfl, lk_find hk147 rfl, lk_find hk147 rfl, lk_find hk147 rfl, trivial⟩ h
          | false =>
            have h := cd_f hb93 h
            refine py_if (pc := 91) (len := 3) false rfl hb93 ?_
            refine py_its (pc := 94) (pc1 := 150) (lv1 := lv) (st1 := []) 1 (fun _ _ _ _ => rfl) ?_
            refine py_inc (pc := 150) (len := 3) (j := 7) (n := 1) rfl rfl hk rfl (fun lv148 hk149 => ?_)
            have hk149 : lk lv148 [(7, .int (v7 + Int32.ofInt 1)), (0, .ref 69), (1, .int v1), (2, .int v2), (3, .int v3), (4, .long v4), (6, .int v6)] := hk149
            refine py_its (pc := 153) (pc1 := 68) (lv1 := lv148) (st1 := []) 1 (fun _ _ _ _ => rfl) ?_
            exact ih v3 v4 v6 (v7 + Int32.ofInt 1) hp lv148 _ hS ⟨lk_find hk149 rfl, lk_find hk149 rfl, lk_find hk149 rfl, lk_find hk149 rfl, lk_find hk149 rfl, lk_find hk149 rfl, lk_find hk149 rfl, trivial⟩ h
noncomputable def fn_M_fair (a1 : Int32) (a2 : Int32) (hp : px_H) : Option (Int32 × px_H) :=
  sb (wF hp 69 0 (.int (Int32.ofInt 0))) fun h1 =>
  (fn_M_isSet a1 h1).bind fun q3 =>
  bif px_cmp .eq q3 0 then
    some ((Int32.ofInt (-1)), h1)
  else
    bif px_cmp .eq a1 0 then
      some ((Int32.ofInt (-1)), h1)
    else
      (fn_M_isLeft a2 h1).bind fun q8 =>
      bif px_cmp .ne q8 0 then
        bif px_cmp .ne (aI h1 82 (Int32.ofInt 1).toNatClampNeg) 0 then
          fn_M_fair_L68 a1 a2 fu (Int32.ofInt (-1)) (Int64.ofNat 0) (Int32.ofInt 1) (Int32.ofInt 0) h1
        else
          bif px_cmp .ne (aI h1 82 (Int32.ofInt 2).toNatClampNeg) 0 then
            fn_M_fair_L68 a1 a2 fu (Int32.ofInt (-1)) (Int64.ofNat 0) (Int32.ofInt 1) (Int32.ofInt 0) h1
          else
            bif px_cmp .ne (aI h1 82 (Int32.ofInt 3).toNatClampNeg) 0 then
              fn_M_fair_L68 a1 a2 fu (Int32.ofInt (-1)) (Int64.ofNat 0) (Int32.ofInt 1) (Int32.ofInt 0) h1
            else
              some ((Int8.ofInt (-4)).toInt32, h1)
      else
        some ((Int32.ofInt (-1)), h1)
theorem fx_M_fair {a1 : Int32} {a2 : Int32} {hp : px_H} {res : Int32 × px_H} (hS : oS hp) (h : fn_M_fair a1 a2 hp = some res) : px_C nm_T nm_P mi_M_fair [.ref 69, .int a1, .int a2] hp (some (.int res.1)) res.2 ∧ oS res.2 := by
  unfold fn_M_fair at h
  refine py_C (M := mm_M_fair) rfl (Nat.le_of_ble_eq_true rfl) ?_
  show px_Y mm_M_fair 0 [(0, .ref 69), (1, .int a1), (2, .int a2)] [] hp _ _
  refine py_its (pc := 0) (pc1 := 2) (lv1 := [(0, .ref 69), (1, .int a1), (2, .int a2)]) (st1 := [.int (Int32.ofInt 0), .ref 69]) 2 (fun _ _ _ _ => rfl) ?_
  have h := sb_e h
  refine py_pI (pc := 2) (len := 3) (cs := [69]) rfl rfl rfl List.mem_cons_self hS rfl rfl rfl rfl ?_
  have hS2 : oS (wF hp 69 0 (.int (Int32.ofInt 0))) := oS_wI (cs := [69]) (ci := 9) rfl List.mem_cons_self hS
  generalize (wF hp 69 0 (.int (Int32.ofInt 0))) = h1 at h hS2 ⊢
  refine py_its (pc := 5) (pc1 := 7) (lv1 := [(0, .ref 69), (1, .int a1), (2, .int a2)]) (st1 := [.int a1, .ref 69]) 2 (fun _ _ _ _ => rfl) ?_
  obtain ⟨q3, hq4, h⟩ := bd_e h
  have hC5 := (fx_M_isSet hS2 hq4).1
  refine py_vi (pc := 7) (mi := mi_M_isSet) (cs := [69]) (N := mm_M_isSet) rfl rfl rfl rfl List.mem_cons_self hS2 rfl (Nat.le_of_ble_eq_true rfl) (Nat.le_of_ble_eq_true rfl) rfl rfl hC5 ?_
  show px_Y mm_M_fair 10 [(0, .ref 69), (1, .int a1), (2, .int a2)] [.int q3] h1 _ _
  cases hb6 : px_cmp .eq q3 0 with
  | true =>
    have h := cd_t hb6 h
    refine py_if (pc := 10) (len := 3) true rfl hb6 ?_
    refine py_its (pc := 25) (pc1 := 26) (lv1 := [(0, .ref 69), (1, .int a1), (2, .int a2)]) (st1 := [.int (Int32.ofInt (-1))]) 1 (fun _ _ _ _ => rfl) ?_
    have h := Option.some.inj h
    subst h
    exact py_ir (pc := 26) (len := 1) (ty := .int) rfl rfl rfl hS2
  | false =>
    have h := cd_f hb6 h
    refine py_if (pc := 10) (len := 3) false rfl hb6 ?_
    refine py_its (pc := 13) (pc1 := 14) (lv1 := [(0, .ref 69), (1, .int a1), (2, .int a2)]) (st1 := [.int a1]) 1 (fun _ _ _ _ => rfl) ?_
    cases hb7 : px_cmp .eq a1 0 with
    | true =>
      have h := cd_t hb7 h
      refine py_if (pc := 14) (len := 3) true rfl hb7 ?_
      refine py_its (pc := 25) (pc1 := 26) (lv1 := [(0, .ref 69), (1, .int a1), (2, .int a2)]) (st1 := [.int (Int32.ofInt (-1))]) 1 (fun _ _ _ _ => rfl) ?_
      have h := Option.some.inj h
      subst h
      exact py_ir (pc := 26) (len := 1) (ty := .int) rfl rfl rfl hS2
    | false =>
      have h := cd_f hb7 h
      refine py_if (pc := 14) (len := 3) false rfl hb7 ?_
      refine py_its (pc := 17) (pc1 := 19) (lv1 := [(0, .ref 69), (1, .int a1), (2, .int a2)]) (st1 := [.int a2, .ref 69]) 2 (fun _ _ _ _ => rfl) ?_
      obtain ⟨q8, hq9, h⟩ := bd_e h
      have hC10 := (fx_M_isLeft hS2 hq9).1
      refine py_vi (pc := 19) (mi := mi_M_isLeft) (cs := [69]) (N := mm_M_isLeft) rfl rfl rfl rfl List.mem_cons_self hS2 rfl (Nat.le_of_ble_eq_true rfl) (Nat.le_of_ble_eq_true rfl) rfl rfl hC10 ?_
      show px_Y mm_M_fair 22 [(0, .ref 69), (1, .int a1), (2, .int a2)] [.int q8] h1 _ _
      cases hb11 : px_cmp .ne q8 0 with
      | true =>
        have h := cd_t hb11 h
        refine py_if (pc := 22) (len := 3) true rfl hb11 ?_
        refine py_its (pc := 27) (pc1 := 28) (lv1 := [(0, .ref 69), (1, .int a1), (2, .int a2)]) (st1 := [.ref 69]) 1 (fun _ _ _ _ => rfl) ?_
        refine py_g1 82 (pc := 28) (len := 3) (cs := [69]) rfl rfl rfl List.mem_cons_self hS2 ?_
        refine py_its (pc := 31) (pc1 := 32) (lv1 := [(0, .ref 69), (1, .int a1), (2, .int a2)]) (st1 := [.int (Int32.ofInt 1), .ref 82]) 1 (fun _ _ _ _ => rfl) ?_
        refine py_ab (pc := 32) (len := 1) (cs := [82]) (t := 39) (n := 4) rfl rfl rfl rfl List.mem_cons_self hS2 ?_
        cases hb12 : px_cmp .ne (aI h1 82 (Int32.ofInt 1).toNatClampNeg) 0 with
        | true =>
          have h := cd_t hb12 h
          refine py_if (pc := 33) (len := 3) true rfl hb12 ?_
          refine py_its (pc := 57) (pc1 := 68) (lv1 := [(7, .int (Int32.ofInt 0)), (6, .int (Int32.ofInt 1)), (4, .long (Int64.ofNat 0)), (3, .int (Int32.ofInt (-1))), (0, .ref 69), (1, .int a1), (2, .int a2)]) (st1 := []) 8 (fun _ _ _ _ => rfl) ?_
          exact fl_M_fair_L68 fu (Int32.ofInt (-1)) (Int64.ofNat 0) (Int32.ofInt 1) (Int32.ofInt 0) h1 [(7, .int (Int32.ofInt 0)), (6, .int (Int32.ofInt 1)), (4, .long (Int64.ofNat 0)), (3, .int (Int32.ofInt (-1))), (0, .ref 69), (1, .int a1), (2, .int a2)] _ hS2 ⟨rfl, rfl, rfl, rfl, rfl, rfl, rfl, trivial⟩ h
        | false =>
          have h := cd_f hb12 h
          refine py_if (pc := 33) (len := 3) false rfl hb12 ?_
          refine py_its (pc := 36) (pc1 := 37) (lv1 := [(0, .ref 69), (1, .int a1), (2, .int a2)]) (st1 := [.ref 69]) 1 (fun _ _ _ _ => rfl) ?_
          refine py_g1 82 (pc := 37) (len := 3) (cs := [69]) rfl rfl rfl List.mem_cons_self hS2 ?_
          refine py_its (pc := 40) (pc1 := 41) (lv1 := [(0, .ref 69), (1, .int a1), (2, .int a2)]) (st1 := [.int (Int32.ofInt 2), .ref 82]) 1 (fun _ _ _ _ => rfl) ?_
          refine py_ab (pc := 41) (len := 1) (cs := [82]) (t := 39) (n := 4) rfl rfl rfl rfl List.mem_cons_self hS2 ?_
          cases hb13 : px_cmp .ne (aI h1 82 (Int32.ofInt 2).toNatClampNeg) 0 with
          | true =>
            have h := cd_t hb13 h
            refine py_if (pc := 42) (len := 3) true rfl hb13 ?_
            refine py_its (pc := 57) (pc1 := 68) (lv1 := [(7, .int (Int32.ofInt 0)), (6, .int (Int32.ofInt 1)), (4, .long (Int64.ofNat 0)), (3, .int (Int32.ofInt (-1))), (0, .ref 69), (1, .int a1), (2, .int a2)]) (st1 := []) 8 (fun _ _ _ _ => rfl) ?_
            exact fl_M_fair_L68 fu (Int32.ofInt (-1)) (Int64.ofNat 0) (Int32.ofInt 1) (Int32.ofInt 0) h1 [(7, .int (Int32.ofInt 0)), (6, .int (Int32.ofInt 1)), (4, .long (Int64.ofNat 0)), (3, .int (Int32.ofInt (-1))), (0, .ref 69), (1, .int a1), (2, .int a2)] _ hS2 ⟨rfl, rfl, rfl, rfl, rfl, rfl, rfl, trivial⟩ h
          | false =>
            have h := cd_f hb13 h
            refine py_if (pc := 42) (len := 3) false rfl hb13 ?_
            refine py_its (pc := 45) (pc1 := 46) (lv1 := [(0, .ref 69), (1, .int a1), (2, .int a2)]) (st1 := [.ref 69]) 1 (fun _ _ _ _ => rfl) ?_
            refine py_g1 82 (pc := 46) (len := 3) (cs := [69]) rfl rfl rfl List.mem_cons_self hS2 ?_
            refine py_its (pc := 49) (pc1 := 50) (lv1 := [(0, .ref 69), (1, .int a1), (2, .int a2)]) (st1 := [.int (Int32.ofInt 3), .ref 82]) 1 (fun _ _ _ _ => rfl) ?_
            refine py_ab (pc := 50) (len := 1) (cs := [82]) (t := 39) (n := 4) rfl rfl rfl rfl List.mem_cons_self hS2 ?_
            cases hb14 : px_cmp .ne (aI h1 82 (Int32.ofInt 3).toNatClampNeg) 0 with
            | true =>
              have h := cd_t hb14 h
              refine py_if (pc := 51) (len := 3) true rfl hb14 ?_
              refine py_its (pc := 57) (pc1 := 68) (lv1 := [(7, .int (Int32.ofInt 0)), (6, .int (Int32.ofInt 1)), (4, .long (Int64.ofNat 0)), (3, .int (Int32.ofInt (-1))), (0, .ref 69), (1, .int a1), (2, .int a2)]) (st1 := []) 8 (fun _ _ _ _ => rfl) ?_
              exact fl_M_fair_L68 fu (Int32.ofInt (-1)) (Int64.ofNat 0) (Int32.ofInt 1) (Int32.ofInt 0) h1 [(7, .int (Int32.ofInt 0)), (6, .int (Int32.ofInt 1)), (4, .long (Int64.ofNat 0)), (3, .int (Int32.ofInt (-1))), (0, .ref 69), (1, .int a1), (2, .int a2)] _ hS2 ⟨rfl, rfl, rfl, rfl, rfl, rfl, rfl, trivial⟩ h
            | false =>
              have h := cd_f hb14 h
              refine py_if (pc := 51) (len := 3) false rfl hb14 ?_
              refine py_its (pc := 54) (pc1 := 56) (lv1 := [(0, .ref 69), (1, .int a1), (2, .int a2)]) (st1 := [.int (Int8.ofInt (-4)).toInt32]) 1 (fun _ _ _ _ => rfl) ?_
              have h := Option.some.inj h
              subst h
              exact py_ir (pc := 56) (len := 1) (ty := .int) rfl rfl rfl hS2
      | false =>
        have h := cd_f hb11 h
        refine py_if (pc := 22) (len := 3) false rfl hb11 ?_
        refine py_its (pc := 25) (pc1 := 26) (lv1 := [(0, .ref 69), (1, .int a1), (2, .int a2)]) (st1 := [.int (Int32.ofInt (-1))]) 1 (fun _ _ _ _ => rfl) ?_
        have h := Option.some.inj h
        subst h
        exact py_ir (pc := 26) (len := 1) (ty := .int) rfl rfl rfl hS2
/-! M_sumBelow -/
noncomputable def fb_M_sumBelow_L5 (v1 : Int32) (hp : px_H) (rc : Int64 → Int32 → Option (Int64)) (v2 : Int64) (v4 : Int32) : Option (Int64) :=
  bif px_inR v1 6 then
  bif px_cmp .ge v4 (aI hp 80 v1.toNatClampNeg) then
    some v2
  else
    (fn_M_filled v4 hp).bind fun q3 =>
    rc (v2 + q3) (v4 + Int32.ofInt 1)
  else none
noncomputable def fn_M_sumBelow_L5 (v1 : Int32) (hp : px_H) : Nat → Int64 → Int32 → Option (Int64)
  | 0 => fun _ _ => none
  | n + 1 => fb_M_sumBelow_L5 v1 hp (fn_M_sumBelow_L5 v1 hp n)
theorem fl_M_sumBelow_L5 {v1 : Int32} {hp : px_H}  : ∀ (n : Nat) (v2 : Int64) (v4 : Int32) (lv : List (Nat × Value)) (res : Int64), oS hp → lk lv [(0, .ref 69), (1, .int v1), (2, .long v2), (4, .int v4)] → fn_M_sumBelow_L5 v1 hp n v2 v4 = some res → px_Y mm_M_sumBelow 5 lv [] hp (some (.long res)) hp := by
  intro n
  induction n with
  | zero =>
    intro v2 v4 lv res hS hk h
    cases h
  | succ n ih =>
    intro v2 v4 lv res hS hk h
    have h : fb_M_sumBelow_L5 v1 hp (fn_M_sumBelow_L5 v1 hp n) v2 v4 = some res := h
    unfold fb_M_sumBelow_L5 at h
    refine py_il (pc := 5) (len := 2) (j := 4) rfl hk rfl ?_
    refine py_aln (pc := 7) (len := 1) (j := 0) rfl hk rfl ?_
    refine py_g1 80 (pc := 8) (len := 3) (cs := [69]) rfl rfl rfl List.mem_cons_self hS ?_
    refine py_iln (pc := 11) (len := 1) (j := 1) rfl hk rfl ?_
    obtain ⟨hi1, h⟩ := cd_n h
    refine py_ai (pc := 12) (len := 1) (cs := [80]) (t := 37) (n := 6) rfl rfl rfl hi1 List.mem_cons_self hS ?_
    cases hb2 : px_cmp .ge v4 (aI hp 80 v1.toNatClampNeg) with
    | true =>
      have h := cd_t hb2 h
      refine py_ic (pc := 13) (len := 3) true rfl hb2 ?_
      refine py_lln (pc := 31) (len := 1) (j := 2) rfl hk rfl ?_
      have h := Option.some.inj h
      subst h
      exact py_lr (pc := 32) (len := 1) rfl rfl hS
    | false =>
      have h := cd_f hb2 h
      refine py_ic (pc := 13) (len := 3) false rfl hb2 ?_
      refine py_lln (pc := 16) (len := 1) (j := 2) rfl hk rfl ?_
      refine py_aln (pc := 17) (len := 1) (j := 0) rfl hk rfl ?_
      refine py_il (pc := 18) (len := 2) (j := 4) rfl hk rfl ?_
      obtain ⟨q3, hq4, h⟩ := bd_e h
      have hC5 := (fx_M_filled hS hq4).1
      refine py_vi (pc := 20) (mi := mi_M_filled) (cs := [69]) (N := mm_M_filled) rfl rfl rfl rfl List.mem_cons_self hS rfl (Nat.le_of_ble_eq_true rfl) (Nat.le_of_ble_eq_true rfl) rfl rfl hC5 ?_
      show px_Y mm_M_sumBelow 23 lv [.long q3, .long v2] hp _ _
      refine py_its (pc := 23) (pc1 := 24) (lv1 := lv) (st1 := [.long (v2 + q3)]) 1 (fun _ _ _ _ => rfl) ?_
      refine py_sln (pc := 24) (len := 1) (j := 2) rfl rfl hk (fun lv6 hk7 => ?_)
      have hk7 : lk lv6 [(2, .long (v2 + q3)), (0, .ref 69), (1, .int v1), (4, .int v4)] := hk7
      refine py_inc (pc := 25) (len := 3) (j := 4) (n := 1) rfl rfl hk7 rfl (fun lv8 hk9 => ?_)
      have hk9 : lk lv8 [(4, .int (v4 + Int32.ofInt 1)), (2, .long (v2 + q3)), (0, .ref 69), (1, .int v1)] := hk9
      refine py_its (pc := 28) (pc1 := 5) (lv1 := lv8) (st1 := []) 1 (fun _ _ _ _ => rfl) ?_
      exact ih (v2 + q3) (v4 + Int32.ofInt 1) lv8 _ hS ⟨lk_find hk9 rfl, lk_find hk9 rfl, lk_find hk9 rfl, lk_find hk9 rfl, trivial⟩ h
noncomputable def fn_M_sumBelow (a1 : Int32) (hp : px_H) : Option (Int64) :=
  fn_M_sumBelow_L5 a1 hp fu (Int64.ofNat 0) (Int32.ofInt 0)
theorem fx_M_sumBelow {a1 : Int32} {hp : px_H} {res : Int64} (hS : oS hp) (h : fn_M_sumBelow a1 hp = some res) : px_C nm_T nm_P mi_M_sumBelow [.ref 69, .int a1] hp (some (.long res)) hp ∧ oS hp := by
  unfold fn_M_sumBelow at h
  refine py_C (M := mm_M_sumBelow) rfl (Nat.le_of_ble_eq_true rfl) ?_
  show px_Y mm_M_sumBelow 0 [(0, .ref 69), (1, .int a1)] [] hp _ _
  refine py_its (pc := 0) (pc1 := 5) (lv1 := [(4, .int (Int32.ofInt 0)), (2, .long (Int64.ofNat 0)), (0, .ref 69), (1, .int a1)]) (st1 := []) 4 (fun _ _ _ _ => rfl) ?_
  exact fl_M_sumBelow_L5 fu (Int64.ofNat 0) (Int32.ofInt 0) [(4, .int (Int32.ofInt 0)), (2, .long (Int64.ofNat 0)), (0, .ref 69), (1, .int a1)] _ hS ⟨rfl, rfl, rfl, rfl, trivial⟩ h
/-! M_war -/
noncomputable def fn_M_war (a1 : Int32) (a2 : Int32) (hp : px_H) : Option (Int32 × px_H) :=
  sb (wF hp 69 0 (.int (Int32.ofInt 0))) fun h1 =>
  (fn_M_isSet a1 h1).bind fun q3 =>
  bif px_cmp .eq q3 0 then
    some ((Int32.ofInt (-1)), h1)
  else
    (fn_M_isLeft a2 h1).bind fun q7 =>
    bif px_cmp .ne q7 0 then
      sb (wF h1 69 20 (.int a1)) fun h11 =>
      (fn_M_asks a2 h11).bind fun q13 =>
      sb (wF q13.2 69 20 (.int (Int32.ofInt 0))) fun h17 =>
      bif px_cmp .ne q13.1 0 then
        (fn_M_sumBelow a2 h17).bind fun q20 =>
        (fn_M_asks a2 h17).bind fun q23 =>
        bif px_cmp .ne q23.1 0 then
          sb (wF q23.2 69 1 (.int (Int32.ofInt 0))) fun h28 =>
          (fn_M_enters q20 h28).bind fun q30 =>
          (fn_M_sumBelow a2 q30).bind fun q34 =>
          (fn_M_enters q34 q30).bind fun q37 =>
          some ((Int32.ofInt 0), q37)
        else
          some ((Int8.ofInt (-3)).toInt32, q23.2)
      else
        some ((Int8.ofInt (-3)).toInt32, h17)
    else
      some ((Int32.ofInt (-1)), h1)
theorem fx_M_war {a1 : Int32} {a2 : Int32} {hp : px_H} {res : Int32 × px_H} (hS : oS hp) (h : fn_M_war a1 a2 hp = some res) : px_C nm_T nm_P mi_M_war [.ref 69, .int a1, .int a2] hp (some (.int res.1)) res.2 ∧ oS res.2 := by
  unfold fn_M_war at h
  refine py_C (M := mm_M_war) rfl (Nat.le_of_ble_eq_true rfl) ?_
  show px_Y mm_M_war 0 [(0, .ref 69), (1, .int a1), (2, .int a2)] [] hp _ _
  refine py_its (pc := 0) (pc1 := 2) (lv1 := [(0, .ref 69), (1, .int a1), (2, .int a2)]) (st1 := [.int (Int32.ofInt 0), .ref 69]) 2 (fun _ _ _ _ => rfl) ?_
  have h := sb_e h
  refine py_pI (pc := 2) (len := 3) (cs := [69]) rfl rfl rfl List.mem_cons_self hS rfl rfl rfl rfl ?_
  have hS2 : oS (wF hp 69 0 (.int (Int32.ofInt 0))) := oS_wI (cs := [69]) (ci := 9) rfl List.mem_cons_self hS
  generalize (wF hp 69 0 (.int (Int32.ofInt 0))) = h1 at h hS2 ⊢
  refine py_its (pc := 5) (pc1 := 7) (lv1 := [(0, .ref 69), (1, .int a1), (2, .int a2)]) (st1 := [.int a1, .ref 69]) 2 (fun _ _ _ _ => rfl) ?_
  obtain ⟨q3, hq4, h⟩ := bd_e h
  have hC5 := (fx_M_isSet hS2 hq4).1
  refine py_vi (pc := 7) (mi := mi_M_isSet) (cs := [69]) (N := mm_M_isSet) rfl rfl rfl rfl List.mem_cons_self hS2 rfl (Nat.le_of_ble_eq_true rfl) (Nat.le_of_ble_eq_true rfl) rfl rfl hC5 ?_
  show px_Y mm_M_war 10 [(0, .ref 69), (1, .int a1), (2, .int a2)] [.int q3] h1 _ _
  cases hb6 : px_cmp .eq q3 0 with
  | true =>
    have h := cd_t hb6 h
    refine py_if (pc := 10) (len := 3) true rfl hb6 ?_
    refine py_its (pc := 21) (pc1 := 22) (lv1 := [(0, .ref 69), (1, .int a1), (2, .int a2)]) (st1 := [.int (Int32.ofInt (-1))]) 1 (fun _ _ _ _ => rfl) ?_
    have h := Option.some.inj h
    subst h
    exact py_ir (pc := 22) (len := 1) (ty := .int) rfl rfl rfl hS2
  | false =>
    have h := cd_f hb6 h
    refine py_if (pc := 10) (len := 3) false rfl hb6 ?_
    refine py_its (pc := 13) (pc1 := 15) (lv1 := [(0, .ref 69), (1, .int a1), (2, .int a2)]) (st1 := [.int a2, .ref 69]) 2 (fun _ _ _ _ => rfl) ?_
    obtain ⟨q7, hq8, h⟩ := bd_e h
    have hC9 := (fx_M_isLeft hS2 hq8).1
    refine py_vi (pc := 15) (mi := mi_M_isLeft) (cs := [69]) (N := mm_M_isLeft) rfl rfl rfl rfl List.mem_cons_self hS2 rfl (Nat.le_of_ble_eq_true rfl) (Nat.le_of_ble_eq_true rfl) rfl rfl hC9 ?_
    show px_Y mm_M_war 18 [(0, .ref 69), (1, .int a1), (2, .int a2)] [.int q7] h1 _ _
    cases hb10 : px_cmp .ne q7 0 with
    | true =>
      have h := cd_t hb10 h
      refine py_if (pc := 18) (len := 3) true rfl hb10 ?_
      refine py_its (pc := 23) (pc1 := 25) (lv1 := [(0, .ref 69), (1, .int a1), (2, .int a2)]) (st1 := [.int a1, .ref 69]) 2 (fun _ _ _ _ => rfl) ?_
      have h := sb_e h
      refine py_pI (pc := 25) (len := 3) (cs := [69]) rfl rfl rfl List.mem_cons_self hS2 rfl rfl rfl rfl ?_
      have hS12 : oS (wF h1 69 20 (.int a1)) := oS_wI (cs := [69]) (ci := 9) rfl List.mem_cons_self hS2
      generalize (wF h1 69 20 (.int a1)) = h11 at h hS12 ⊢
      refine py_its (pc := 28) (pc1 := 30) (lv1 := [(0, .ref 69), (1, .int a1), (2, .int a2)]) (st1 := [.int a2, .ref 69]) 2 (fun _ _ _ _ => rfl) ?_
      obtain ⟨q13, hq14, h⟩ := bd_e h
      obtain ⟨hC15, hS16⟩ := fx_M_asks hS12 hq14
      refine py_vi (pc := 30) (mi := mi_M_asks) (cs := [69]) (N := mm_M_asks) rfl rfl rfl rfl List.mem_cons_self hS12 rfl (Nat.le_of_ble_eq_true rfl) (Nat.le_of_ble_eq_true rfl) rfl rfl hC15 ?_
      show px_Y mm_M_war 33 [(0, .ref 69), (1, .int a1), (2, .int a2)] [.int q13.1] q13.2 _ _
      refine py_its (pc := 33) (pc1 := 36) (lv1 := [(3, .int q13.1), (0, .ref 69), (1, .int a1), (2, .int a2)]) (st1 := [.int (Int32.ofInt 0), .ref 69]) 3 (fun _ _ _ _ => rfl) ?_
      have h := sb_e h
      refine py_pI (pc := 36) (len := 3) (cs := [69]) rfl rfl rfl List.mem_cons_self hS16 rfl rfl rfl rfl ?_
      have hS18 : oS (wF q13.2 69 20 (.int (Int32.ofInt 0))) := oS_wI (cs := [69]) (ci := 9) rfl List.mem_cons_self hS16
      generalize (wF q13.2 69 20 (.int (Int32.ofInt 0))) = h17 at h hS18 ⊢
      refine py_its (pc := 39) (pc1 := 40) (lv1 := [(3, .int q13.1), (0, .ref 69), (1, .int a1), (2, .int a2)]) (st1 := [.int q13.1]) 1 (fun _ _ _ _ => rfl) ?_
      cases hb19 : px_cmp .ne q13.1 0 with
      | true =>
        have h := cd_t hb19 h
        refine py_if (pc := 40) (len := 3) true rfl hb19 ?_
        refine py_its (pc := 46) (pc1 := 48) (lv1 := [(3, .int q13.1), (0, .ref 69), (1, .int a1), (2, .int a2)]) (st1 := [.int a2, .ref 69]) 2 (fun _ _ _ _ => rfl) ?_
        obtain ⟨q20, hq21, h⟩ := bd_e h
        have hC22 := (fx_M_sumBelow hS18 hq21).1
        refine py_vi (pc := 48) (mi := mi_M_sumBelow) (cs := [69]) (N := mm_M_sumBelow) rfl rfl rfl rfl List.mem_cons_self hS18 rfl (Nat.le_of_ble_eq_true rfl) (Nat.le_of_ble_eq_true rfl) rfl rfl hC22 ?_
        show px_Y mm_M_war 51 [(3, .int q13.1), (0, .ref 69), (1, .int a1), (2, .int a2)] [.long q20] h17 _ _
        refine py_its (pc := 51) (pc1 := 55) (lv1 := [(4, .long q20), (3, .int q13.1), (0, .ref 69), (1, .int a1), (2, .int a2)]) (st1 := [.int a2, .ref 69]) 3 (fun _ _ _ _ => rfl) ?_
        obtain ⟨q23, hq24, h⟩ := bd_e h
        obtain ⟨hC25, hS26⟩ := fx_M_asks hS18 hq24
        refine py_vi (pc := 55) (mi := mi_M_asks) (cs := [69]) (N := mm_M_asks) rfl rfl rfl rfl List.mem_cons_self hS18 rfl (Nat.le_of_ble_eq_true rfl) (Nat.le_of_ble_eq_true rfl) rfl rfl hC25 ?_
        show px_Y mm_M_war 58 [(4, .long q20), (3, .int q13.1), (0, .ref 69), (1, .int a1), (2, .int a2)] [.int q23.1] q23.2 _ _
        cases hb27 : px_cmp .ne q23.1 0 with
        | true =>
          have h := cd_t hb27 h
          refine py_if (pc := 58) (len := 3) true rfl hb27 ?_
          refine py_its (pc := 64) (pc1 := 66) (lv1 := [(4, .long q20), (3, .int q13.1), (0, .ref 69), (1, .int a1), (2, .int a2)]) (st1 := [.int (Int32.ofInt 0), .ref 69]) 2 (fun _ _ _ _ => rfl) ?_
          have h := sb_e h
          refine py_pI (pc := 66) (len := 3) (cs := [69]) rfl rfl rfl List.mem_cons_self hS26 rfl rfl rfl rfl ?_
          have hS29 : oS (wF q23.2 69 1 (.int (Int32.ofInt 0))) := oS_wI (cs := [69]) (ci := 9) rfl List.mem_cons_self hS26
          generalize (wF q23.2 69 1 (.int (Int32.ofInt 0))) = h28 at h hS29 ⊢
          refine py_its (pc := 69) (pc1 := 72) (lv1 := [(4, .long q20), (3, .int q13.1), (0, .ref 69), (1, .int a1), (2, .int a2)]) (st1 := [.long q20, .ref 69]) 2 (fun _ _ _ _ => rfl) ?_
          obtain ⟨q30, hq31, h⟩ := bd_e h
          obtain ⟨hC32, hS33⟩ := fx_M_enters hS29 hq31
          refine py_vi (pc := 72) (mi := mi_M_enters) (cs := [69]) (N := mm_M_enters) rfl rfl rfl rfl List.mem_cons_self hS29 rfl (Nat.le_of_ble_eq_true rfl) (Nat.le_of_ble_eq_true rfl) rfl rfl hC32 ?_
          show px_Y mm_M_war 75 [(4, .long q20), (3, .int q13.1), (0, .ref 69), (1, .int a1), (2, .int a2)] [] q30 _ _
          refine py_its (pc := 75) (pc1 := 78) (lv1 := [(4, .long q20), (3, .int q13.1), (0, .ref 69), (1, .int a1), (2, .int a2)]) (st1 := [.int a2, .ref 69, .ref 69]) 3 (fun _ _ _ _ => rfl) ?_
          obtain ⟨q34, hq35, h⟩ := bd_e h
          have hC36 := (fx_M_sumBelow hS33 hq35).1
          refine py_vi (pc := 78) (mi := mi_M_sumBelow) (cs := [69]) (N := mm_M_sumBelow) rfl rfl rfl rfl List.mem_cons_self hS33 rfl (Nat.le_of_ble_eq_true rfl) (Nat.le_of_ble_eq_true rfl) rfl rfl hC36 ?_
          show px_Y mm_M_war 81 [(4, .long q20), (3, .int q13.1), (0, .ref 69), (1, .int a1), (2, .int a2)] [.long q34, .ref 69] q30 _ _
          obtain ⟨q37, hq38, h⟩ := bd_e h
          obtain ⟨hC39, hS40⟩ := fx_M_enters hS33 hq38
          refine py_vi (pc := 81) (mi := mi_M_enters) (cs := [69]) (N := mm_M_enters) rfl rfl rfl rfl List.mem_cons_self hS33 rfl (Nat.le_of_ble_eq_true rfl) (Nat.le_of_ble_eq_true rfl) rfl rfl hC39 ?_
          show px_Y mm_M_war 84 [(4, .long q20), (3, .int q13.1), (0, .ref 69), (1, .int a1), (2, .int a2)] [] q37 _ _
          refine py_its (pc := 84) (pc1 := 85) (lv1 := [(4, .long q20), (3, .int q13.1), (0, .ref 69), (1, .int a1), (2, .int a2)]) (st1 := [.int (Int32.ofInt 0)]) 1 (fun _ _ _ _ => rfl) ?_
          have h := Option.some.inj h
          subst h
          exact py_ir (pc := 85) (len := 1) (ty := .int) rfl rfl rfl hS40
        | false =>
          have h := cd_f hb27 h
          refine py_if (pc := 58) (len := 3) false rfl hb27 ?_
          refine py_its (pc := 61) (pc1 := 63) (lv1 := [(4, .long q20), (3, .int q13.1), (0, .ref 69), (1, .int a1), (2, .int a2)]) (st1 := [.int (Int8.ofInt (-3)).toInt32]) 1 (fun _ _ _ _ => rfl) ?_
          have h := Option.some.inj h
          subst h
          exact py_ir (pc := 63) (len := 1) (ty := .int) rfl rfl rfl hS26
      | false =>
        have h := cd_f hb19 h
        refine py_if (pc := 40) (len := 3) false rfl hb19 ?_
        refine py_its (pc := 43) (pc1 := 45) (lv1 := [(3, .int q13.1), (0, .ref 69), (1, .int a1), (2, .int a2)]) (st1 := [.int (Int8.ofInt (-3)).toInt32]) 1 (fun _ _ _ _ => rfl) ?_
        have h := Option.some.inj h
        subst h
        exact py_ir (pc := 45) (len := 1) (ty := .int) rfl rfl rfl hS18
    | false =>
      have h := cd_f hb10 h
      refine py_if (pc := 18) (len := 3) false rfl hb10 ?_
      refine py_its (pc := 21) (pc1 := 22) (lv1 := [(0, .ref 69), (1, .int a1), (2, .int a2)]) (st1 := [.int (Int32.ofInt (-1))]) 1 (fun _ _ _ _ => rfl) ?_
      have h := Option.some.inj h
      subst h
      exact py_ir (pc := 22) (len := 1) (ty := .int) rfl rfl rfl hS2
/-! M_list -/
noncomputable def fn_M_list (a1 : Int32) (hp : px_H) : Option (Int32 × px_H) :=
  sb (wF hp 69 0 (.int (Int32.ofInt 0))) fun h1 =>
  (fn_M_isSet a1 h1).bind fun q3 =>
  bif px_cmp .eq q3 0 then
    some ((Int32.ofInt (-1)), h1)
  else
    bif px_cmp .ne (gI h1 69 49) (Int8.ofInt 6).toInt32 then
      bif px_inR (gI h1 69 49) 6 then
      sb (uI h1 99 (gI h1 69 49).toNatClampNeg a1) fun h9 =>
      sb (wF h9 69 49 (.int ((gI h9 69 49) + (Int32.ofInt 1)))) fun h11 =>
      some ((gI h11 69 49), h11)
      else none
    else
      some ((Int32.ofInt (-1)), h1)
theorem fx_M_list {a1 : Int32} {hp : px_H} {res : Int32 × px_H} (hS : oS hp) (h : fn_M_list a1 hp = some res) : px_C nm_T nm_P mi_M_list [.ref 69, .int a1] hp (some (.int res.1)) res.2 ∧ oS res.2 := by
  unfold fn_M_list at h
  refine py_C (M := mm_M_list) rfl (Nat.le_of_ble_eq_true rfl) ?_
  show px_Y mm_M_list 0 [(0, .ref 69), (1, .int a1)] [] hp _ _
  refine py_its (pc := 0) (pc1 := 2) (lv1 := [(0, .ref 69), (1, .int a1)]) (st1 := [.int (Int32.ofInt 0), .ref 69]) 2 (fun _ _ _ _ => rfl) ?_
  have h := sb_e h
  refine py_pI (pc := 2) (len := 3) (cs := [69]) rfl rfl rfl List.mem_cons_self hS rfl rfl rfl rfl ?_
  have hS2 : oS (wF hp 69 0 (.int (Int32.ofInt 0))) := oS_wI (cs := [69]) (ci := 9) rfl List.mem_cons_self hS
  generalize (wF hp 69 0 (.int (Int32.ofInt 0))) = h1 at h hS2 ⊢
  refine py_its (pc := 5) (pc1 := 7) (lv1 := [(0, .ref 69), (1, .int a1)]) (st1 := [.int a1, .ref 69]) 2 (fun _ _ _ _ => rfl) ?_
  obtain ⟨q3, hq4, h⟩ := bd_e h
  have hC5 := (fx_M_isSet hS2 hq4).1
  refine py_vi (pc := 7) (mi := mi_M_isSet) (cs := [69]) (N := mm_M_isSet) rfl rfl rfl rfl List.mem_cons_self hS2 rfl (Nat.le_of_ble_eq_true rfl) (Nat.le_of_ble_eq_true rfl) rfl rfl hC5 ?_
  show px_Y mm_M_list 10 [(0, .ref 69), (1, .int a1)] [.int q3] h1 _ _
  cases hb6 : px_cmp .eq q3 0 with
  | true =>
    have h := cd_t hb6 h
    refine py_if (pc := 10) (len := 3) true rfl hb6 ?_
    refine py_its (pc := 22) (pc1 := 23) (lv1 := [(0, .ref 69), (1, .int a1)]) (st1 := [.int (Int32.ofInt (-1))]) 1 (fun _ _ _ _ => rfl) ?_
    have h := Option.some.inj h
    subst h
    exact py_ir (pc := 23) (len := 1) (ty := .int) rfl rfl rfl hS2
  | false =>
    have h := cd_f hb6 h
    refine py_if (pc := 10) (len := 3) false rfl hb6 ?_
    refine py_its (pc := 13) (pc1 := 14) (lv1 := [(0, .ref 69), (1, .int a1)]) (st1 := [.ref 69]) 1 (fun _ _ _ _ => rfl) ?_
    refine py_gI (pc := 14) (len := 3) (cs := [69]) rfl rfl rfl List.mem_cons_self hS2 ?_
    refine py_its (pc := 17) (pc1 := 19) (lv1 := [(0, .ref 69), (1, .int a1)]) (st1 := [.int (Int8.ofInt 6).toInt32, .int (gI h1 69 49)]) 1 (fun _ _ _ _ => rfl) ?_
    cases hb7 : px_cmp .ne (gI h1 69 49) (Int8.ofInt 6).toInt32 with
    | true =>
      have h := cd_t hb7 h
      refine py_ic (pc := 19) (len := 3) true rfl hb7 ?_
      refine py_its (pc := 24) (pc1 := 25) (lv1 := [(0, .ref 69), (1, .int a1)]) (st1 := [.ref 69]) 1 (fun _ _ _ _ => rfl) ?_
      refine py_g1 99 (pc := 25) (len := 3) (cs := [69]) rfl rfl rfl List.mem_cons_self hS2 ?_
      refine py_its (pc := 28) (pc1 := 29) (lv1 := [(0, .ref 69), (1, .int a1)]) (st1 := [.ref 69, .ref 99]) 1 (fun _ _ _ _ => rfl) ?_
      refine py_gI (pc := 29) (len := 3) (cs := [69]) rfl rfl rfl List.mem_cons_self hS2 ?_
      refine py_its (pc := 32) (pc1 := 33) (lv1 := [(0, .ref 69), (1, .int a1)]) (st1 := [.int a1, .int (gI h1 69 49), .ref 99]) 1 (fun _ _ _ _ => rfl) ?_
      obtain ⟨hi8, h⟩ := cd_n h
      have h := sb_e h
      refine py_si (pc := 33) (len := 1) (cs := [99]) (t := 56) (n := 6) rfl rfl rfl hi8 List.mem_cons_self hS2 ?_
      have hS10 : oS (uI h1 99 (gI h1 69 49).toNatClampNeg a1) := oS_uI (cs := [99]) (t := 56) (n := 6) rfl List.mem_cons_self hS2
      generalize (uI h1 99 (gI h1 69 49).toNatClampNeg a1) = h9 at h hS10 ⊢
      refine py_its (pc := 34) (pc1 := 36) (lv1 := [(0, .ref 69), (1, .int a1)]) (st1 := [.ref 69, .ref 69]) 2 (fun _ _ _ _ => rfl) ?_
      refine py_gI (pc := 36) (len := 3) (cs := [69]) rfl rfl rfl List.mem_cons_self hS10 ?_
      refine py_its (pc := 39) (pc1 := 41) (lv1 := [(0, .ref 69), (1, .int a1)]) (st1 := [.int ((gI h9 69 49) + (Int32.ofInt 1)), .ref 69]) 2 (fun _ _ _ _ => rfl) ?_
      have h := sb_e h
      refine py_pI (pc := 41) (len := 3) (cs := [69]) rfl rfl rfl List.mem_cons_self hS10 rfl rfl rfl rfl ?_
      have hS12 : oS (wF h9 69 49 (.int ((gI h9 69 49) + (Int32.ofInt 1)))) := oS_wI (cs := [69]) (ci := 9) rfl List.mem_cons_self hS10
      generalize (wF h9 69 49 (.int ((gI h9 69 49) + (Int32.ofInt 1)))) = h11 at h hS12 ⊢
      refine py_its (pc := 44) (pc1 := 45) (lv1 := [(0, .ref 69), (1, .int a1)]) (st1 := [.ref 69]) 1 (fun _ _ _ _ => rfl) ?_
      refine py_gI (pc := 45) (len := 3) (cs := [69]) rfl rfl rfl List.mem_cons_self hS12 ?_
      have h := Option.some.inj h
      subst h
      exact py_ir (pc := 48) (len := 1) (ty := .int) rfl rfl rfl hS12
    | false =>
      have h := cd_f hb7 h
      refine py_ic (pc := 19) (len := 3) false rfl hb7 ?_
      refine py_its (pc := 22) (pc1 := 23) (lv1 := [(0, .ref 69), (1, .int a1)]) (st1 := [.int (Int32.ofInt (-1))]) 1 (fun _ _ _ _ => rfl) ?_
      have h := Option.some.inj h
      subst h
      exact py_ir (pc := 23) (len := 1) (ty := .int) rfl rfl rfl hS2
/-! M_wipe -/
noncomputable def fn_M_wipe  (hp : px_H) : Option (Int32 × px_H) :=
  sb (wF hp 69 0 (.int (Int32.ofInt 0))) fun h1 =>
  sb (wF h1 69 49 (.int (Int32.ofInt 0))) fun h3 =>
  some ((gI h1 69 49), h3)
theorem fx_M_wipe  {hp : px_H} {res : Int32 × px_H} (hS : oS hp) (h : fn_M_wipe hp = some res) : px_C nm_T nm_P mi_M_wipe [.ref 69] hp (some (.int res.1)) res.2 ∧ oS res.2 := by
  unfold fn_M_wipe at h
  refine py_C (M := mm_M_wipe) rfl (Nat.le_of_ble_eq_true rfl) ?_
  show px_Y mm_M_wipe 0 [(0, .ref 69)] [] hp _ _
  refine py_its (pc := 0) (pc1 := 2) (lv1 := [(0, .ref 69)]) (st1 := [.int (Int32.ofInt 0), .ref 69]) 2 (fun _ _ _ _ => rfl) ?_
  have h := sb_e h
  refine py_pI (pc := 2) (len := 3) (cs := [69]) rfl rfl rfl List.mem_cons_self hS rfl rfl rfl rfl ?_
  have hS2 : oS (wF hp 69 0 (.int (Int32.ofInt 0))) := oS_wI (cs := [69]) (ci := 9) rfl List.mem_cons_self hS
  generalize (wF hp 69 0 (.int (Int32.ofInt 0))) = h1 at h hS2 ⊢
  refine py_its (pc := 5) (pc1 := 6) (lv1 := [(0, .ref 69)]) (st1 := [.ref 69]) 1 (fun _ _ _ _ => rfl) ?_
  refine py_gI (pc := 6) (len := 3) (cs := [69]) rfl rfl rfl List.mem_cons_self hS2 ?_
  refine py_its (pc := 9) (pc1 := 12) (lv1 := [(1, .int (gI h1 69 49)), (0, .ref 69)]) (st1 := [.int (Int32.ofInt 0), .ref 69]) 3 (fun _ _ _ _ => rfl) ?_
  have h := sb_e h
  refine py_pI (pc := 12) (len := 3) (cs := [69]) rfl rfl rfl List.mem_cons_self hS2 rfl rfl rfl rfl ?_
  have hS4 : oS (wF h1 69 49 (.int (Int32.ofInt 0))) := oS_wI (cs := [69]) (ci := 9) rfl List.mem_cons_self hS2
  generalize (wF h1 69 49 (.int (Int32.ofInt 0))) = h3 at h hS4 ⊢
  refine py_its (pc := 15) (pc1 := 16) (lv1 := [(1, .int (gI h1 69 49)), (0, .ref 69)]) (st1 := [.int (gI h1 69 49)]) 1 (fun _ _ _ _ => rfl) ?_
  have h := Option.some.inj h
  subst h
  exact py_ir (pc := 16) (len := 1) (ty := .int) rfl rfl rfl hS4
/-! M_keepsListed -/
noncomputable def fb_M_keepsListed_L4 (v1 : Int32) (rc : Int32 → Int32 → px_H → Option (px_H)) (v2 : Int32) (v3 : Int32) (hp : px_H) : Option (px_H) :=
  bif px_cmp .ge v3 (aI hp 96 (Int32.ofInt 2).toNatClampNeg) then
    sb (uI hp 96 (Int32.ofInt 2).toNatClampNeg v2) fun h2 =>
    some h2
  else
    (fn_M_satAt v3 v1 hp).bind fun q4 =>
    bif px_inR v1 6 then
    bif px_cmp .ne q4.1 (aI q4.2 99 v1.toNatClampNeg) then
      rc v2 (v3 + Int32.ofInt 1) q4.2
    else
      bif px_inR ((Int16.ofInt 6002).toInt32 + v3) 9003 then
      bif px_inR ((Int16.ofInt 6002).toInt32 + v2) 9003 then
      sb (uL q4.2 93 ((Int16.ofInt 6002).toInt32 + v2).toNatClampNeg (aL q4.2 93 ((Int16.ofInt 6002).toInt32 + v3).toNatClampNeg)) fun h14 =>
      bif px_inR ((Int16.ofInt 6002).toInt32 + v3) 9003 then
      bif px_inR ((Int16.ofInt 6002).toInt32 + v2) 9003 then
      sb (uL h14 94 ((Int16.ofInt 6002).toInt32 + v2).toNatClampNeg (aL h14 94 ((Int16.ofInt 6002).toInt32 + v3).toNatClampNeg)) fun h18 =>
      bif px_inR ((Int16.ofInt 6002).toInt32 + v3) 9003 then
      bif px_inR ((Int16.ofInt 6002).toInt32 + v2) 9003 then
      sb (uL h18 95 ((Int16.ofInt 6002).toInt32 + v2).toNatClampNeg (aL h18 95 ((Int16.ofInt 6002).toInt32 + v3).toNatClampNeg)) fun h22 =>
      rc (v2 + Int32.ofInt 1) (v3 + Int32.ofInt 1) h22
      else none
      else none
      else none
      else none
      else none
      else none
    else none
noncomputable def fn_M_keepsListed_L4 (v1 : Int32) : Nat → Int32 → Int32 → px_H → Option (px_H)
  | 0 => fun _ _ _ => none
  | n + 1 => fb_M_keepsListed_L4 v1 (fn_M_keepsListed_L4 v1 n)
theorem fl_M_keepsListed_L4 {v1 : Int32}  : ∀ (n : Nat) (v2 : Int32) (v3 : Int32) (hp : px_H) (lv : List (Nat × Value)) (res : px_H), oS hp → lk lv [(0, .ref 69), (1, .int v1), (2, .int v2), (3, .int v3)] → fn_M_keepsListed_L4 v1 n v2 v3 hp = some res → px_Y mm_M_keepsListed 4 lv [] hp none res := by
  intro n
  induction n with
  | zero =>
    intro v2 v3 hp lv res hS hk h
    cases h
  | succ n ih =>
    intro v2 v3 hp lv res hS hk h
    have h : fb_M_keepsListed_L4 v1 (fn_M_keepsListed_L4 v1 n) v2 v3 hp = some res := h
    unfold fb_M_keepsListed_L4 at h
    refine py_iln (pc := 4) (len := 1) (j := 3) rfl hk rfl ?_
    refine py_aln (pc := 5) (len := 1) (j := 0) rfl hk rfl ?_
    refine py_g1 96 (pc := 6) (len := 3) (cs := [69]) rfl rfl rfl List.mem_cons_self hS ?_
    refine py_its (pc := 9) (pc1 := 10) (lv1 := lv) (st1 := [.int (Int32.ofInt 2), .ref 96, .int v3]) 1 (fun _ _ _ _ => rfl) ?_
    refine py_ai (pc := 10) (len := 1) (cs := [96]) (t := 53) (n := 3) rfl rfl rfl rfl List.mem_cons_self hS ?_
    cases hb1 : px_cmp .ge v3 (aI hp 96 (Int32.ofInt 2).toNatClampNeg) with
    | true =>
      have h := cd_t hb1 h
      refine py_ic (pc := 11) (len := 3) true rfl hb1 ?_
      refine py_aln (pc := 98) (len := 1) (j := 0) rfl hk rfl ?_
      refine py_g1 96 (pc := 99) (len := 3) (cs := [69]) rfl rfl rfl List.mem_cons_self hS ?_
      refine py_its (pc := 102) (pc1 := 103) (lv1 := lv) (st1 := [.int (Int32.ofInt 2), .ref 96]) 1 (fun _ _ _ _ => rfl) ?_
      refine py_iln (pc := 103) (len := 1) (j := 2) rfl hk rfl ?_
      have h := sb_e h
      refine py_si (pc := 104) (len := 1) (cs := [96]) (t := 53) (n := 3) rfl rfl rfl rfl List.mem_cons_self hS ?_
      have hS3 : oS (uI hp 96 (Int32.ofInt 2).toNatClampNeg v2) := oS_uI (cs := [96]) (t := 53) (n := 3) rfl List.mem_cons_self hS
      generalize (uI hp 96 (Int32.ofInt 2).toNatClampNeg v2) = h2 at h hS3 ⊢
      have h := Option.some.inj h
      subst h
      exact py_rt (pc := 105) (len := 1) rfl rfl hS3
    | false =>
      have h := cd_f hb1 h
      refine py_ic (pc := 11) (len := 3) false rfl hb1 ?_
      refine py_aln (pc := 14) (len := 1) (j := 0) rfl hk rfl ?_
      refine py_iln (pc := 15) (len := 1) (j := 3) rfl hk rfl ?_
      refine py_iln (pc := 16) (len := 1) (j := 1) rfl hk rfl ?_
      obtain ⟨q4, hq5, h⟩ := bd_e h
      obtain ⟨hC6, hS7⟩ := fx_M_satAt hS hq5
      refine py_vi (pc := 17) (mi := mi_M_satAt) (cs := [69]) (N := mm_M_satAt) rfl rfl rfl rfl List.mem_cons_self hS rfl (Nat.le_of_ble_eq_true rfl) (Nat.le_of_ble_eq_true rfl) rfl rfl hC6 ?_
      show px_Y mm_M_keepsListed 20 lv [.int q4.1] q4.2 _ _
      refine py_aln (pc := 20) (len := 1) (j := 0) rfl hk rfl ?_
      refine py_g1 99 (pc := 21) (len := 3) (cs := [69]) rfl rfl rfl List.mem_cons_self hS7 ?_
      refine py_iln (pc := 24) (len := 1) (j := 1) rfl hk rfl ?_
      obtain ⟨hi8, h⟩ := cd_n h
      refine py_ai (pc := 25) (len := 1) (cs := [99]) (t := 56) (n := 6) rfl rfl rfl hi8 List.mem_cons_self hS7 ?_
      cases hb9 : px_cmp .ne q4.1 (aI q4.2 99 v1.toNatClampNeg) with
      | true =>
        have h := cd_t hb9 h
        refine py_ic (pc := 26) (len := 3) true rfl hb9 ?_
        refine py_inc (pc := 92) (len := 3) (j := 3) (n := 1) rfl rfl hk rfl (fun lv10 hk11 => ?_)
        have hk11 : lk lv10 [(3, .int (v3 + Int32.ofInt 1)), (0, .ref 69), (1, .int v1), (2, .int v2)] := hk11
        refine py_its (pc := 95) (pc1 := 4) (lv1 := lv10) (st1 := []) 1 (fun _ _ _ _ => rfl) ?_
        exact ih v2 (v3 + Int32.ofInt 1) q4.2 lv10 _ hS7 ⟨lk_find hk11 rfl, lk_find hk11 rfl, lk_find hk11 rfl, lk_find hk11 rfl, trivial⟩ h
      | false =>
        have h := cd_f hb9 h
        refine py_ic (pc := 26) (len := 3) false rfl hb9 ?_
        refine py_aln (pc := 29) (len := 1) (j := 0) rfl hk rfl ?_
        refine py_g1 93 (pc := 30) (len := 3) (cs := [69]) rfl rfl rfl List.mem_cons_self hS7 ?_
        refine py_its (pc := 33) (pc1 := 36) (lv1 := lv) (st1 := [.int (Int16.ofInt 6002).toInt32, .ref 93]) 1 (fun _ _ _ _ => rfl) ?_
        refine py_iln (pc := 36) (len := 1) (j := 2) rfl hk rfl ?_
        refine py_its (pc := 37) (pc1 := 38) (lv1 := lv) (st1 := [.int ((Int16.ofInt 6002).toInt32 + v2), .ref 93]) 1 (fun _ _ _ _ => rfl) ?_
        refine py_aln (pc := 38) (len := 1) (j := 0) rfl hk rfl ?_
        refine py_g1 93 (pc := 39) (len := 3) (cs := [69]) rfl rfl rfl List.mem_cons_self hS7 ?_
        refine py_its (pc := 42) (pc1 := 45) (lv1 := lv) (st1 := [.int (Int16.ofInt 6002).toInt32, .ref 93, .int ((Int16.ofInt 6002).toInt32 + v2), .ref 93]) 1 (fun _ _ _ _ => rfl) ?_
        refine py_iln (pc := 45) (len := 1) (j := 3) rfl hk rfl ?_
        refine py_its (pc := 46) (pc1 := 47) (lv1 := lv) (st1 := [.int ((Int16.ofInt 6002).toInt32 + v3), .ref 93, .int ((Int16.ofInt 6002).toInt32 + v2), .ref 93]) 1 (fun _ _ _ _ => rfl) ?_
        obtain ⟨hi12, h⟩ := cd_n h
        refine py_al (pc := 47) (len := 1) (cs := [93]) (t := 50) (n := 9003) rfl rfl rfl hi12 List.mem_cons_self hS7 ?_
        obtain ⟨hi13, h⟩ := cd_n h
        have h := sb_e h
        refine py_sl (pc := 48) (len := 1) (cs := [93]) (t := 50) (n := 9003) rfl rfl rfl hi13 List.mem_cons_self hS7 ?_
        have hS15 : oS (uL q4.2 93 ((Int16.ofInt 6002).toInt32 + v2).toNatClampNeg (aL q4.2 93 ((Int16.ofInt 6002).toInt32 + v3).toNatClampNeg)) := oS_uL (cs := [93]) (t := 50) (n := 9003) rfl List.mem_cons_self hS7
        generalize (uL q4.2 93 ((Int16.ofInt 6002).toInt32 + v2).toNatClampNeg (aL q4.2 93 ((Int16.ofInt 6002).toInt32 + v3).toNatClampNeg)) = h14 at h hS15 ⊢
        refine py_aln (pc := 49) (len := 1) (j := 0) rfl hk rfl ?_
        refine py_g1 94 (pc := 50) (len := 3) (cs := [69]) rfl rfl rfl List.mem_cons_self hS15 ?_
        refine py_its (pc := 53) (pc1 := 56) (lv1 := lv) (st1 := [.int (Int16.ofInt 6002).toInt32, .ref 94]) 1 (fun _ _ _ _ => rfl) ?_
        refine py_iln (pc := 56) (len := 1) (j := 2) rfl hk rfl ?_
        refine py_its (pc := 57) (pc1 := 58) (lv1 := lv) (st1 := [.int ((Int16.ofInt 6002).toInt32 + v2), .ref 94]) 1 (fun _ _ _ _ => rfl) ?_
        refine py_aln (pc := 58) (len := 1) (j := 0) rfl hk rfl ?_
        refine py_g1 94 (pc := 59) (len := 3) (cs := [69]) rfl rfl rfl List.mem_cons_self hS15 ?_
        refine py_its (pc := 62) (pc1 := 65) (lv1 := lv) (st1 := [.int (Int16.ofInt 6002).toInt32, .ref 94, .int ((Int16.ofInt 6002).toInt32 + v2), .ref 94]) 1 (fun _ _ _ _ => rfl) ?_
        refine py_iln (pc := 65) (len := 1) (j := 3) rfl hk rfl ?_
        refine py_its (pc := 66) (pc1 := 67) (lv1 := lv) (st1 := [.int ((Int16.ofInt 6002).toInt32 + v3), .ref 94, .int ((Int16.ofInt 6002).toInt32 + v2), .ref 94]) 1 (fun _ _ _ _ => rfl) ?_
        obtain ⟨hi16, h⟩ := cd_n h
        refine py_al (pc := 67) (len := 1) (cs := [94]) (t := 51) (n := 9003) rfl rfl rfl hi16 List.mem_cons_self hS15 ?_
        obtain ⟨hi17, h⟩ := cd_n h
        have h := sb_e h
        refine py_sl (pc := 68) (len := 1) (cs := [94]) (t := 51) (n := 9003) rfl rfl rfl hi17 List.mem_cons_self hS15 ?_
        have hS19 : oS (uL h14 94 ((Int16.ofInt 6002).toInt32 + v2).toNatClampNeg (aL h14 94 ((Int16.ofInt 6002).toInt32 + v3).toNatClampNeg)) := oS_uL (cs := [94]) (t := 51) (n := 9003) rfl List.mem_cons_self hS15
        generalize (uL h14 94 ((Int16.ofInt 6002).toInt32 + v2).toNatClampNeg (aL h14 94 ((Int16.ofInt 6002).toInt32 + v3).toNatClampNeg)) = h18 at h hS19 ⊢
        refine py_aln (pc := 69) (len := 1) (j := 0) rfl hk rfl ?_
        refine py_g1 95 (pc := 70) (len := 3) (cs := [69]) rfl rfl rfl List.mem_cons_self hS19 ?_
        refine py_its (pc := 73) (pc1 := 76) (lv1 := lv) (st1 := [.int (Int16.ofInt 6002).toInt32, .ref 95]) 1 (fun _ _ _ _ => rfl) ?_
        refine py_iln (pc := 76) (len := 1) (j := 2) rfl hk rfl ?_
        refine py_its (pc := 77) (pc1 := 78) (lv1 := lv) (st1 := [.int ((Int16.ofInt 6002).toInt32 + v2), .ref 95]) 1 (fun _ _ _ _ => rfl) ?_
        refine py_aln (pc := 78) (len := 1) (j := 0) rfl hk rfl ?_
        refine py_g1 95 (pc := 79) (len := 3) (cs := [69]) rfl rfl rfl List.mem_cons_self hS19 ?_
        refine py_its (pc := 82) (pc1 := 85) (lv1 := lv) (st1 := [.int (Int16.ofInt 6002).toInt32, .ref 95, .int ((Int16.ofInt 6002).toInt32 + v2), .ref 95]) 1 (fun _ _ _ _ => rfl) ?_
        refine py_iln (pc := 85) (len := 1) (j := 3) rfl hk rfl ?_
        refine py_its (pc := 86) (pc1 := 87) (lv1 := lv) (st1 := [.int ((Int16.ofInt 6002).toInt32 + v3), .ref 95, .int ((Int16.ofInt 6002).toInt32 + v2), .ref 95]) 1 (fun _ _ _ _ => rfl) ?_
        obtain ⟨hi20, h⟩ := cd_n h
        refine py_al (pc := 87) (len := 1) (cs := [95]) (t := 52) (n := 9003) rfl rfl rfl hi20 List.mem_cons_self hS19 ?_
        obtain ⟨hi21, h⟩ := cd_n h
        have h := sb_e h
        refine py_sl (pc := 88) (len := 1) (cs := [95]) (t := 52) (n := 9003) rfl rfl rfl hi21 List.mem_cons_self hS19 ?_
        have hS23 : oS (uL h18 95 ((Int16.ofInt 6002).toInt32 + v2).toNatClampNeg (aL h18 95 ((Int16.ofInt 6002).toInt32 + v3).toNatClampNeg)) := oS_uL (cs := [95]) (t := 52) (n := 9003) rfl List.mem_cons_self hS19
        generalize (uL h18 95 ((Int16.ofInt 6002).toInt32 + v2).toNatClampNeg (aL h18 95 ((Int16.ofInt 6002).toInt32 + v3).toNatClampNeg)) = h22 at h hS23 ⊢
        refine py_inc (pc := 89) (len := 3) (j := 2) (n := 1) rfl rfl hk rfl (fun lv24 hk25 => ?_)
        have hk25 : lk lv24 [(2, .int (v2 + Int32.ofInt 1)), (0, .ref 69), (1, .int v1), (3, .int v3)] := hk25
        refine py_inc (pc := 92) (len := 3) (j := 3) (n := 1) rfl rfl hk25 rfl (fun lv26 hk27 => ?_)
        have hk27 : lk lv26 [(3, .int (v3 + Int32.ofInt 1)), (2, .int (v2 + Int32.ofInt 1)), (0, .ref 69), (1, .int v1)] := hk27
        refine py_its (pc := 95) (pc1 := 4) (lv1 := lv26) (st1 := []) 1 (fun _ _ _ _ => rfl) ?_
        exact ih (v2 + Int32.ofInt 1) (v3 + Int32.ofInt 1) h22 lv26 _ hS23 ⟨lk_find hk27 rfl, lk_find hk27 rfl, lk_find hk27 rfl, lk_find hk27 rfl, trivial⟩ h
noncomputable def fn_M_keepsListed (a1 : Int32) (hp : px_H) : Option (px_H) :=
  fn_M_keepsListed_L4 a1 fu (Int32.ofInt 0) (Int32.ofInt 0) hp
theorem fx_M_keepsListed {a1 : Int32} {hp : px_H} {res : px_H} (hS : oS hp) (h : fn_M_keepsListed a1 hp = some res) : px_C nm_T nm_P mi_M_keepsListed [.ref 69, .int a1] hp none res ∧ oS res := by
  unfold fn_M_keepsListed at h
  refine py_C (M := mm_M_keepsListed) rfl (Nat.le_of_ble_eq_true rfl) ?_
  show px_Y mm_M_keepsListed 0 [(0, .ref 69), (1, .int a1)] [] hp _ _
  refine py_its (pc := 0) (pc1 := 4) (lv1 := [(3, .int (Int32.ofInt 0)), (2, .int (Int32.ofInt 0)), (0, .ref 69), (1, .int a1)]) (st1 := []) 4 (fun _ _ _ _ => rfl) ?_
  exact fl_M_keepsListed_L4 fu (Int32.ofInt 0) (Int32.ofInt 0) hp [(3, .int (Int32.ofInt 0)), (2, .int (Int32.ofInt 0)), (0, .ref 69), (1, .int a1)] _ hS ⟨rfl, rfl, rfl, rfl, trivial⟩ h
/-! M_lets -/
noncomputable def fb_M_lets_L108 (hp : px_H) (rc : Int64 → Int32 → Option (Int64 × px_H)) (v4 : Int64) (v6 : Int32) : Option (Int64 × px_H) :=
  bif px_cmp .ge v6 (aI hp 96 (Int32.ofInt 2).toNatClampNeg) then
    bif px_cmp .ne (aI hp 96 (Int32.ofInt 2).toNatClampNeg) 0 then
      some (v4, hp)
    else
      some ((Int64.ofInt (-1)), hp)
  else
    (fn_M_endPart v6 hp).bind fun q66 =>
    rc (v4 + q66) (v6 + Int32.ofInt 1)
noncomputable def fn_M_lets_L108 (hp : px_H) : Nat → Int64 → Int32 → Option (Int64 × px_H)
  | 0 => fun _ _ => none
  | n + 1 => fb_M_lets_L108 hp (fn_M_lets_L108 hp n)
theorem fl_M_lets_L108 {hp : px_H}  : ∀ (n : Nat) (v4 : Int64) (v6 : Int32) (lv : List (Nat × Value)) (res : Int64 × px_H), oS hp → lk lv [(0, .ref 69), (4, .long v4), (6, .int v6)] → fn_M_lets_L108 hp n v4 v6 = some res → px_Y mm_M_lets 108 lv [] hp (some (.long res.1)) res.2 := by
  intro n
  induction n with
  | zero =>
    intro v4 v6 lv res hS hk h
    cases h
  | succ n ih =>
    intro v4 v6 lv res hS hk h
    have h : fb_M_lets_L108 hp (fn_M_lets_L108 hp n) v4 v6 = some res := h
    unfold fb_M_lets_L108 at h
    refine py_il (pc := 108) (len := 2) (j := 6) rfl hk rfl ?_
    refine py_aln (pc := 110) (len := 1) (j := 0) rfl hk rfl ?_
    refine py_g1 96 (pc := 111) (len := 3) (cs := [69]) rfl rfl rfl List.mem_cons_self hS ?_
    refine py_its (pc := 114) (pc1 := 115) (lv1 := lv) (st1 := [.int (Int32.ofInt 2), .ref 96, .int v6]) 1 (fun _ _ _ _ => rfl) ?_
    refine py_ai (pc := 115) (len := 1) (cs := [96]) (t := 53) (n := 3) rfl rfl rfl rfl List.mem_cons_self hS ?_
    cases hb64 : px_cmp .ge v6 (aI hp 96 (Int32.ofInt 2).toNatClampNeg) with
    | true =>
      have h := cd_t hb64 h
      refine py_ic (pc := 116) (len := 3) true rfl hb64 ?_
      refine py_aln (pc := 136) (len := 1) (j := 0) rfl hk rfl ?_
      refine py_g1 96 (pc := 137) (len := 3) (cs := [69]) rfl rfl rfl List.mem_cons_self hS ?_
      refine py_its (pc := 140) (pc1 := 141) (lv1 := lv) (st1 := [.int (Int32.ofInt 2), .ref 96]) 1 (fun _ _ _ _ => rfl) ?_
      refine py_ai (pc := 141) (len := 1) (cs := [96]) (t := 53) (n := 3) rfl rfl rfl rfl List.mem_cons_self hS ?_
      cases hb65 : px_cmp .ne (aI hp 96 (Int32.ofInt 2).toNatClampNeg) 0 with
      | true =>
        have h := cd_t hb65 h
        refine py_if (pc := 142) (len := 3) true rfl hb65 ?_
        refine py_ll (pc := 151) (len := 2) (j := 4) rfl hk rfl ?_
        have h := Option.some.inj h
        subst h
        exact py_lr (pc := 153) (len := 1) rfl rfl hS
      | false =>
        have h := cd_f hb65 h
        refine py_if (pc := 142) (len := 3) false rfl hb65 ?_
        refine py_its (pc := 145) (pc1 := 153) (lv1 := lv) (st1 := [.long (Int64.ofInt (-1))]) 2 (fun _ _ _ _ => rfl) ?_
        have h := Option.some.inj h
        subst h
        exact py_lr (pc := 153) (len := 1) rfl rfl hS
    | false =>
      have h := cd_f hb64 h
      refine py_ic (pc := 116) (len := 3) false rfl hb64 ?_
      refine py_ll (pc := 119) (len := 2) (j := 4) rfl hk rfl ?_
      refine py_aln (pc := 121) (len := 1) (j := 0) rfl hk rfl ?_
      refine py_il (pc := 122) (len := 2) (j := 6) rfl hk rfl ?_
      obtain ⟨q66, hq67, h⟩ := bd_e h
      have hC68 := (fx_M_endPart hS hq67).1
      refine py_vi (pc := 124) (mi := mi_M_endPart) (cs := [69]) (N := mm_M_endPart) rfl rfl rfl rfl List.mem_cons_self hS rfl (Nat.le_of_ble_eq_true rfl) (Nat.le_of_ble_eq_true rfl) rfl rfl hC68 ?_
      show px_Y mm_M_lets 127 lv [.long q66, .long v4] hp _ _
      refine py_its (pc := 127) (pc1 := 128) (lv1 := lv) (st1 := [.long (v4 + q66)]) 1 (fun _ _ _ _ => rfl) ?_
      refine py_stl (pc := 128) (len := 2) (j := 4) rfl rfl hk (fun lv69 hk70 => ?_)
      have hk70 : lk lv69 [(4, .long (v4 + q66)), (0, .ref 69), (6, .int v6)] := hk70
      refine py_inc (pc := 130) (len := 3) (j := 6) (n := 1) rfl rfl hk70 rfl (fun lv71 hk72 => ?_)
      have hk72 : lk lv71 [(6, .int (v6 + Int32.ofInt 1)), (4, .long (v4 + q66)), (0, .ref 69)] := hk72
      refine py_its (pc := 133) (pc1 := 108) (lv1 := lv71) (st1 := []) 1 (fun _ _ _ _ => rfl) ?_
      exact ih (v4 + q66) (v6 + Int32.ofInt 1) lv71 _ hS ⟨lk_find hk72 rfl, lk_find hk72 rfl, lk_find hk72 rfl, trivial⟩ h
noncomputable def fb_M_lets_L44 (v1 : Int32) (rc : Int32 → Int32 → px_H → Option (Int64 × px_H)) (v3 : Int32) (v4 : Int32) (hp : px_H) : Option (Int64 × px_H) :=
  bif px_cmp .ge v4 (gI hp 69 49) then
    bif px_inR v1 2 then
    sb (uI hp 76 v1.toNatClampNeg (gI hp 69 48)) fun h25 =>
    (fn_M_comesBack h25).bind fun q27 =>
    bif px_cmp .ne v3 0 then
      fn_M_lets_L108 q27 fu (Int64.ofNat 0) (Int32.ofInt 0)
    else
      some ((Int64.ofInt (-2)), q27)
    else none
  else
    bif px_cmp .eq v3 0 then
      bif px_inR v1 2 then
      sb (uI hp 76 v1.toNatClampNeg (gI hp 69 48)) fun h38 =>
      (fn_M_comesBack h38).bind fun q40 =>
      bif px_cmp .ne v3 0 then
        fn_M_lets_L108 q40 fu (Int64.ofNat 0) (Int32.ofInt 0)
      else
        some ((Int64.ofInt (-2)), q40)
      else none
    else
      (fn_M_goesThrough v4 hp).bind fun q49 =>
      bif px_cmp .eq q49.1 0 then
        rc q49.1 (v4 + Int32.ofInt 1) q49.2
      else
        (fn_M_keepsListed v4 q49.2).bind fun q58 =>
        rc q49.1 (v4 + Int32.ofInt 1) q58
noncomputable def fn_M_lets_L44 (v1 : Int32) : Nat → Int32 → Int32 → px_H → Option (Int64 × px_H)
  | 0 => fun _ _ _ => none
  | n + 1 => fb_M_lets_L44 v1 (fn_M_lets_L44 v1 n)
theorem fl_M_lets_L44 {v1 : Int32}  : ∀ (n : Nat) (v3 : Int32) (v4 : Int32) (hp : px_H) (lv : List (Nat × Value)) (res : Int64 × px_H), oS hp → lk lv [(0, .ref 69), (1, .int v1), (3, .int v3), (4, .int v4)] → fn_M_lets_L44 v1 n v3 v4 hp = some res → px_Y mm_M_lets 44 lv [] hp (some (.long res.1)) res.2 := by
  intro n
  induction n with
  | zero =>
    intro v3 v4 hp lv res hS hk h
    cases h
  | succ n ih =>
    intro v3 v4 hp lv res hS hk h
    have h : fb_M_lets_L44 v1 (fn_M_lets_L44 v1 n) v3 v4 hp = some res := h
    unfold fb_M_lets_L44 at h
    refine py_il (pc := 44) (len := 2) (j := 4) rfl hk rfl ?_
    refine py_aln (pc := 46) (len := 1) (j := 0) rfl hk rfl ?_
    refine py_gI (pc := 47) (len := 3) (cs := [69]) rfl rfl rfl List.mem_cons_self hS ?_
    cases hb23 : px_cmp .ge v4 (gI hp 69 49) with
    | true =>
      have h := cd_t hb23 h
      refine py_ic (pc := 50) (len := 3) true rfl hb23 ?_
      refine py_aln (pc := 80) (len := 1) (j := 0) rfl hk rfl ?_
      refine py_g1 76 (pc := 81) (len := 3) (cs := [69]) rfl rfl rfl List.mem_cons_self hS ?_
      refine py_iln (pc := 84) (len := 1) (j := 1) rfl hk rfl ?_
      refine py_aln (pc := 85) (len := 1) (j := 0) rfl hk rfl ?_
      refine py_gI (pc := 86) (len := 3) (cs := [69]) rfl rfl rfl List.mem_cons_self hS ?_
      obtain ⟨hi24, h⟩ := cd_n h
      have h := sb_e h
      refine py_si (pc := 89) (len := 1) (cs := [76]) (t := 33) (n := 2) rfl rfl rfl hi24 List.mem_cons_self hS ?_
      have hS26 : oS (uI hp 76 v1.toNatClampNeg (gI hp 69 48)) := oS_uI (cs := [76]) (t := 33) (n := 2) rfl List.mem_cons_self hS
      generalize (uI hp 76 v1.toNatClampNeg (gI hp 69 48)) = h25 at h hS26 ⊢
      refine py_aln (pc := 90) (len := 1) (j := 0) rfl hk rfl ?_
      obtain ⟨q27, hq28, h⟩ := bd_e h
      obtain ⟨hC29, hS30⟩ := fx_M_comesBack hS26 hq28
      refine py_vi (pc := 91) (mi := mi_M_comesBack) (cs := [69]) (N := mm_M_comesBack) rfl rfl rfl rfl List.mem_cons_self hS26 rfl (Nat.le_of_ble_eq_true rfl) (Nat.le_of_ble_eq_true rfl) rfl rfl hC29 ?_
      show px_Y mm_M_lets 94 lv [] q27 _ _
      refine py_iln (pc := 94) (len := 1) (j := 3) rfl hk rfl ?_
      cases hb31 : px_cmp .ne v3 0 with
      | true =>
        have h := cd_t hb31 h
        refine py_if (pc := 95) (len := 3) true rfl hb31 ?_
        refine py_its (pc := 102) (pc1 := 103) (lv1 := lv) (st1 := [.long (Int64.ofNat 0)]) 1 (fun _ _ _ _ => rfl) ?_
        refine py_stl (pc := 103) (len := 2) (j := 4) rfl rfl hk (fun lv32 hk33 => ?_)
        have hk33 : lk lv32 [(4, .long (Int64.ofNat 0)), (0, .ref 69), (1, .int v1), (3, .int v3)] := hk33
        refine py_its (pc := 105) (pc1 := 106) (lv1 := lv32) (st1 := [.int (Int32.ofInt 0)]) 1 (fun _ _ _ _ => rfl) ?_
        refine py_sti (pc := 106) (len := 2) (j := 6) rfl rfl hk33 (fun lv34 hk35 => ?_)
        have hk35 : lk lv34 [(6, .int (Int32.ofInt 0)), (4, .long (Int64.ofNat 0)), (0, .ref 69), (1, .int v1), (3, .int v3)] := hk35
        exact fl_M_lets_L108 fu (Int64.ofNat 0) (Int32.ofInt 0) lv34 _ hS30 ⟨lk_find hk35 rfl, lk_find hk35 rfl, lk_find hk35 rfl, trivial⟩ h
      | false =>
        have h := cd_f hb31 h
        refine py_if (pc := 95) (len := 3) false rfl hb31 ?_
        refine py_its (pc := 98) (pc1 := 101) (lv1 := lv) (st1 := [.long (Int64.ofInt (-2))]) 1 (fun _ _ _ _ => rfl) ?_
        have h := Option.some.inj h
        subst h
        exact py_lr (pc := 101) (len := 1) rfl rfl hS30
    | false =>
      have h := cd_f hb23 h
      refine py_ic (pc := 50) (len := 3) false rfl hb23 ?_
      refine py_iln (pc := 53) (len := 1) (j := 3) rfl hk rfl ?_
      cases hb36 : px_cmp .eq v3 0 with
      | true =>
        have h := cd_t hb36 h
        refine py_if (pc := 54) (len := 3) true rfl hb36 ?_
        refine py_aln (pc := 80) (len := 1) (j := 0) rfl hk rfl ?_
        refine py_g1 76 (pc := 81) (len := 3) (cs := [69]) rfl rfl rfl List.mem_cons_self hS ?_
        refine py_iln (pc := 84) (len := 1) (j := 1) rfl hk rfl ?_
        refine py_aln (pc := 85) (len := 1) (j := 0) rfl hk rfl ?_
        refine py_gI (pc := 86) (len := 3) (cs := [69]) rfl rfl rfl List.mem_cons_self hS ?_
        obtain ⟨hi37, h⟩ := cd_n h
        have h := sb_e h
        refine py_si (pc := 89) (len := 1) (cs := [76]) (t := 33) (n := 2) rfl rfl rfl hi37 List.mem_cons_self hS ?_
        have hS39 : oS (uI hp 76 v1.toNatClampNeg (gI hp 69 48)) := oS_uI (cs := [76]) (t := 33) (n := 2) rfl List.mem_cons_self hS
        generalize (uI hp 76 v1.toNatClampNeg (gI hp 69 48)) = h38 at h hS39 ⊢
        refine py_aln (pc := 90) (len := 1) (j := 0) rfl hk rfl ?_
        obtain ⟨q40, hq41, h⟩ := bd_e h
        obtain ⟨hC42, hS43⟩ := fx_M_comesBack hS39 hq41
        refine py_vi (pc := 91) (mi := mi_M_comesBack) (cs := [69]) (N := mm_M_comesBack) rfl rfl rfl rfl List.mem_cons_self hS39 rfl (Nat.le_of_ble_eq_true rfl) (Nat.le_of_ble_eq_true rfl) rfl rfl hC42 ?_
        show px_Y mm_M_lets 94 lv [] q40 _ _
        refine py_iln (pc := 94) (len := 1) (j := 3) rfl hk rfl ?_
        cases hb44 : px_cmp .ne v3 0 with
        | true =>
          have h := cd_t hb44 h
          refine py_if (pc := 95) (len := 3) true rfl hb44 ?_
          refine py_its (pc := 102) (pc1 := 103) (lv1 := lv) (st1 := [.long (Int64.ofNat 0)]) 1 (fun _ _ _ _ => rfl) ?_
          refine py_stl (pc := 103) (len := 2) (j := 4) rfl rfl hk (fun lv45 hk46 => ?_)
          have hk46 : lk lv45 [(4, .long (Int64.ofNat 0)), (0, .ref 69), (1, .int v1), (3, .int v3)] := hk46
          refine py_its (pc := 105) (pc1 := 106) (lv1 := lv45) (st1 := [.int (Int32.ofInt 0)]) 1 (fun _ _ _ _ => rfl) ?_
          refine py_sti (pc := 106) (len := 2) (j := 6) rfl rfl hk46 (fun lv47 hk48 => ?_)
          have hk48 : lk lv47 [(6, .int (Int32.ofInt 0)), (4, .long (Int64.ofNat 0)), (0, .ref 69), (1, .int v1), (3, .int v3)] := hk48
          exact fl_M_lets_L108 fu (Int64.ofNat 0) (Int32.ofInt 0) lv47 _ hS43 ⟨lk_find hk48 rfl, lk_find hk48 rfl, lk_find hk48 rfl, trivial⟩ h
        | false =>
          have h := cd_f hb44 h
          refine py_if (pc := 95) (len := 3) false rfl hb44 ?_
          refine py_its (pc := 98) (pc1 := 101) (lv1 := lv) (st1 := [.long (Int64.ofInt (-2))]) 1 (fun _ _ _ _ => rfl) ?_
          have h := Option.some.inj h
          subst h
          exact py_lr (pc := 101) (len := 1) rfl rfl hS43
      | false =>
        have h := cd_f hb36 h
        refine py_if (pc := 54) (len := 3) false rfl hb36 ?_
        refine py_aln (pc := 57) (len := 1) (j := 0) rfl hk rfl ?_
        refine py_il (pc := 58) (len := 2) (j := 4) rfl hk rfl ?_
        obtain ⟨q49, hq50, h⟩ := bd_e h
        obtain ⟨hC51, hS52⟩ := fx_M_goesThrough hS hq50
        refine py_vi (pc := 60) (mi := mi_M_goesThrough) (cs := [69]) (N := mm_M_goesThrough) rfl rfl rfl rfl List.mem_cons_self hS rfl (Nat.le_of_ble_eq_true rfl) (Nat.le_of_ble_eq_true rfl) rfl rfl hC51 ?_
        show px_Y mm_M_lets 63 lv [.int q49.1] q49.2 _ _
        refine py_sin (pc := 63) (len := 1) (j := 3) rfl rfl hk (fun lv53 hk54 => ?_)
        have hk54 : lk lv53 [(3, .int q49.1), (0, .ref 69), (1, .int v1), (4, .int v4)] := hk54
        refine py_iln (pc := 64) (len := 1) (j := 3) rfl hk54 rfl ?_
        cases hb55 : px_cmp .eq q49.1 0 with
        | true =>
          have h := cd_t hb55 h
          refine py_if (pc := 65) (len := 3) true rfl hb55 ?_
          refine py_inc (pc := 74) (len := 3) (j := 4) (n := 1) rfl rfl hk54 rfl (fun lv56 hk57 => ?_)
          have hk57 : lk lv56 [(4, .int (v4 + Int32.ofInt 1)), (3, .int q49.1), (0, .ref 69), (1, .int v1)] := hk57
          refine py_its (pc := 77) (pc1 := 44) (lv1 := lv56) (st1 := []) 1 (fun _ _ _ _ => rfl) ?_
          exact ih q49.1 (v4 + Int32.ofInt 1) q49.2 lv56 _ hS52 ⟨lk_find hk57 rfl, lk_find hk57 rfl, lk_find hk57 rfl, lk_find hk57 rfl, trivial⟩ h
        | false =>
          have h := cd_f hb55 h
          refine py_if (pc := 65) (len := 3) false rfl hb55 ?_
          refine py_aln (pc := 68) (len := 1) (j := 0) rfl hk54 rfl ?_
          refine py_il (pc := 69) (len := 2) (j := 4) rfl hk54 rfl ?_
          obtain ⟨q58, hq59, h⟩ := bd_e h
          obtain ⟨hC60, hS61⟩ := fx_M_keepsListed hS52 hq59
          refine py_vi (pc := 71) (mi := mi_M_keepsListed) (cs := [69]) (N := mm_M_keepsListed) rfl rfl rfl rfl List.mem_cons_self hS52 rfl (Nat.le_of_ble_eq_true rfl) (Nat.le_of_ble_eq_true rfl) rfl rfl hC60 ?_
          show px_Y mm_M_lets 74 lv53 [] q58 _ _
          refine py_inc (pc := 74) (len := 3) (j := 4) (n := 1) rfl rfl hk54 rfl (fun lv62 hk63 => ?_)
          have hk63 : lk lv62 [(4, .int (v4 + Int32.ofInt 1)), (3, .int q49.1), (0, .ref 69), (1, .int v1)] := hk63
          refine py_its (pc := 77) (pc1 := 44) (lv1 := lv62) (st1 := []) 1 (fun _ _ _ _ => rfl) ?_
          exact ih q49.1 (v4 + Int32.ofInt 1) q58 lv62 _ hS61 ⟨lk_find hk63 rfl, lk_find hk63 rfl, lk_find hk63 rfl, lk_find hk63 rfl, trivial⟩ h
noncomputable def fn_M_lets (a1 : Int32) (a2 : Int32) (hp : px_H) : Option (Int64 × px_H) :=
  (fn_M_remembers hp).bind fun q1 =>
  bif px_inR a1 2 then
  sb (wF q1 69 48 (.int (aI q1 76 a1.toNatClampNeg))) fun h6 =>
  bif px_inR a1 2 then
  sb (uI h6 76 a1.toNatClampNeg a2) fun h9 =>
  (fn_M_isAsBefore h9).bind fun q11 =>
  (fn_M_empties (Int32.ofInt 2) q11).bind fun q15 =>
  (fn_M_adds (Int32.ofInt 2) (Int64.ofInt 1000000000000) q15).bind fun q19 =>
  fn_M_lets_L44 a1 fu (Int32.ofInt 1) (Int32.ofInt 0) q19.2
  else none
  else none
theorem fx_M_lets {a1 : Int32} {a2 : Int32} {hp : px_H} {res : Int64 × px_H} (hS : oS hp) (h : fn_M_lets a1 a2 hp = some res) : px_C nm_T nm_P mi_M_lets [.ref 69, .int a1, .int a2] hp (some (.long res.1)) res.2 ∧ oS res.2 := by
  unfold fn_M_lets at h
  refine py_C (M := mm_M_lets) rfl (Nat.le_of_ble_eq_true rfl) ?_
  show px_Y mm_M_lets 0 [(0, .ref 69), (1, .int a1), (2, .int a2)] [] hp _ _
  refine py_its (pc := 0) (pc1 := 1) (lv1 := [(0, .ref 69), (1, .int a1), (2, .int a2)]) (st1 := [.ref 69]) 1 (fun _ _ _ _ => rfl) ?_
  obtain ⟨q1, hq2, h⟩ := bd_e h
  obtain ⟨hC3, hS4⟩ := fx_M_remembers hS hq2
  refine py_vi (pc := 1) (mi := mi_M_remembers) (cs := [69]) (N := mm_M_remembers) rfl rfl rfl rfl List.mem_cons_self hS rfl (Nat.le_of_ble_eq_true rfl) (Nat.le_of_ble_eq_true rfl) rfl rfl hC3 ?_
  show px_Y mm_M_lets 4 [(0, .ref 69), (1, .int a1), (2, .int a2)] [] q1 _ _
  refine py_its (pc := 4) (pc1 := 6) (lv1 := [(0, .ref 69), (1, .int a1), (2, .int a2)]) (st1 := [.ref 69, .ref 69]) 2 (fun _ _ _ _ => rfl) ?_
  refine py_g1 76 (pc := 6) (len := 3) (cs := [69]) rfl rfl rfl List.mem_cons_self hS4 ?_
  refine py_its (pc := 9) (pc1 := 10) (lv1 := [(0, .ref 69), (1, .int a1), (2, .int a2)]) (st1 := [.int a1, .ref 76, .ref 69]) 1 (fun _ _ _ _ => rfl) ?_
  obtain ⟨hi5, h⟩ := cd_n h
  refine py_ai (pc := 10) (len := 1) (cs := [76]) (t := 33) (n := 2) rfl rfl rfl hi5 List.mem_cons_self hS4 ?_
  have h := sb_e h
  refine py_pI (pc := 11) (len := 3) (cs := [69]) rfl rfl rfl List.mem_cons_self hS4 rfl rfl rfl rfl ?_
  have hS7 : oS (wF q1 69 48 (.int (aI q1 76 a1.toNatClampNeg))) := oS_wI (cs := [69]) (ci := 9) rfl List.mem_cons_self hS4
  generalize (wF q1 69 48 (.int (aI q1 76 a1.toNatClampNeg))) = h6 at h hS7 ⊢
  refine py_its (pc := 14) (pc1 := 15) (lv1 := [(0, .ref 69), (1, .int a1), (2, .int a2)]) (st1 := [.ref 69]) 1 (fun _ _ _ _ => rfl) ?_
  refine py_g1 76 (pc := 15) (len := 3) (cs := [69]) rfl rfl rfl List.mem_cons_self hS7 ?_
  refine py_its (pc := 18) (pc1 := 20) (lv1 := [(0, .ref 69), (1, .int a1), (2, .int a2)]) (st1 := [.int a2, .int a1, .ref 76]) 2 (fun _ _ _ _ => rfl) ?_
  obtain ⟨hi8, h⟩ := cd_n h
  have h := sb_e h
  refine py_si (pc := 20) (len := 1) (cs := [76]) (t := 33) (n := 2) rfl rfl rfl hi8 List.mem_cons_self hS7 ?_
  have hS10 : oS (uI h6 76 a1.toNatClampNeg a2) := oS_uI (cs := [76]) (t := 33) (n := 2) rfl List.mem_cons_self hS7
  generalize (uI h6 76 a1.toNatClampNeg a2) = h9 at h hS10 ⊢
  refine py_its (pc := 21) (pc1 := 22) (lv1 := [(0, .ref 69), (1, .int a1), (2, .int a2)]) (st1 := [.ref 69]) 1 (fun _ _ _ _ => rfl) ?_
  obtain ⟨q11, hq12, h⟩ := bd_e h
  obtain ⟨hC13, hS14⟩ := fx_M_isAsBefore hS10 hq12
  refine py_vi (pc := 22) (mi := mi_M_isAsBefore) (cs := [69]) (N := mm_M_isAsBefore) rfl rfl rfl rfl List.mem_cons_self hS10 rfl (Nat.le_of_ble_eq_true rfl) (Nat.le_of_ble_eq_true rfl) rfl rfl hC13 ?_
  show px_Y mm_M_lets 25 [(0, .ref 69), (1, .int a1), (2, .int a2)] [] q11 _ _
  refine py_its (pc := 25) (pc1 := 27) (lv1 := [(0, .ref 69), (1, .int a1), (2, .int a2)]) (st1 := [.int (Int32.ofInt 2), .ref 69]) 2 (fun _ _ _ _ => rfl) ?_
  obtain ⟨q15, hq16, h⟩ := bd_e h
  obtain ⟨hC17, hS18⟩ := fx_M_empties hS14 hq16
  refine py_vi (pc := 27) (mi := mi_M_empties) (cs := [69]) (N := mm_M_empties) rfl rfl rfl rfl List.mem_cons_self hS14 rfl (Nat.le_of_ble_eq_true rfl) (Nat.le_of_ble_eq_true rfl) rfl rfl hC17 ?_
  show px_Y mm_M_lets 30 [(0, .ref 69), (1, .int a1), (2, .int a2)] [] q15 _ _
  refine py_its (pc := 30) (pc1 := 35) (lv1 := [(0, .ref 69), (1, .int a1), (2, .int a2)]) (st1 := [.long (Int64.ofInt 1000000000000), .int (Int32.ofInt 2), .ref 69]) 3 (fun _ _ _ _ => rfl) ?_
  obtain ⟨q19, hq20, h⟩ := bd_e h
  obtain ⟨hC21, hS22⟩ := fx_M_adds hS18 hq20
  refine py_vi (pc := 35) (mi := mi_M_adds) (cs := [69]) (N := mm_M_adds) rfl rfl rfl rfl List.mem_cons_self hS18 rfl (Nat.le_of_ble_eq_true rfl) (Nat.le_of_ble_eq_true rfl) rfl rfl hC21 ?_
  show px_Y mm_M_lets 38 [(0, .ref 69), (1, .int a1), (2, .int a2)] [.int q19.1] q19.2 _ _
  refine py_its (pc := 38) (pc1 := 44) (lv1 := [(4, .int (Int32.ofInt 0)), (3, .int (Int32.ofInt 1)), (0, .ref 69), (1, .int a1), (2, .int a2)]) (st1 := []) 5 (fun _ _ _ _ => rfl) ?_
  exact fl_M_lets_L44 fu (Int32.ofInt 1) (Int32.ofInt 0) q19.2 [(4, .int (Int32.ofInt 0)), (3, .int (Int32.ofInt 1)), (0, .ref 69), (1, .int a1), (2, .int a2)] _ hS22 ⟨rfl, rfl, rfl, rfl, trivial⟩ h
/-! M_old -/
noncomputable def fb_M_old_L53 (v1 : Int32) (v2 : Int32) (rc : Int32 → Int32 → Int32 → Int32 → px_H → Option (Int32 × px_H)) (v3 : Int32) (v4 : Int32) (v5 : Int32) (v6 : Int32) (hp : px_H) : Option (Int32 × px_H) :=
  bif px_cmp .gt v6 v2 then
    sb (wF hp 69 1 (.int (Int32.ofInt 0))) fun h14 =>
    bif px_cmp .ne v3 0 then
      (fn_M_enters v4.toInt64 h14).bind fun q17 =>
      (fn_M_enters v5.toInt64 q17).bind fun q21 =>
      some (v3, q21)
    else
      (fn_M_enters (Int64.ofNat 0) h14).bind fun q25 =>
      (fn_M_enters v5.toInt64 q25).bind fun q29 =>
      some (v3, q29)
  else
    bif px_cmp .eq (v6 &&& (v2 ^^^ (Int32.ofInt (-1)))) 0 then
      (fn_M_packing v1 v2 v6 hp).bind fun q34 =>
      (fn_M_lets v1 q34 hp).bind fun q39 =>
      bif px_cmp .ne (lg_cmp q39.1 (Int64.ofInt (-2))) 0 then
        bif px_cmp .lt (lg_cmp q39.1 (Int64.ofNat 0)) 0 then
          rc v3 v4 v5 (v6 + Int32.ofInt 1) q39.2
        else
          rc (v3 + Int32.ofInt 1) (v4 &&& q34) (v5 ||| q34) (v6 + Int32.ofInt 1) q39.2
      else
        some ((Int8.ofInt (-3)).toInt32, q39.2)
    else
      rc v3 v4 v5 (v6 + Int32.ofInt 1) hp
noncomputable def fn_M_old_L53 (v1 : Int32) (v2 : Int32) : Nat → Int32 → Int32 → Int32 → Int32 → px_H → Option (Int32 × px_H)
  | 0 => fun _ _ _ _ _ => none
  | n + 1 => fb_M_old_L53 v1 v2 (fn_M_old_L53 v1 v2 n)
theorem fl_M_old_L53 {v1 : Int32} {v2 : Int32}  : ∀ (n : Nat) (v3 : Int32) (v4 : Int32) (v5 : Int32) (v6 : Int32) (hp : px_H) (lv : List (Nat × Value)) (res : Int32 × px_H), oS hp → lk lv [(0, .ref 69), (1, .int v1), (2, .int v2), (3, .int v3), (4, .int v4), (5, .int v5), (6, .int v6)] → fn_M_old_L53 v1 v2 n v3 v4 v5 v6 hp = some res → px_Y mm_M_old 53 lv [] hp (some (.int res.1)) res.2 := by
  intro n
  induction n with
  | zero =>
    intro v3 v4 v5 v6 hp lv res hS hk h
    cases h
  | succ n ih =>
    intro v3 v4 v5 v6 hp lv res hS hk h
    have h : fb_M_old_L53 v1 v2 (fn_M_old_L53 v1 v2 n) v3 v4 v5 v6 hp = some res := h
    unfold fb_M_old_L53 at h
    refine py_il (pc := 53) (len := 2) (j := 6) rfl hk rfl ?_
    refine py_iln (pc := 55) (len := 1) (j := 2) rfl hk rfl ?_
    cases hb13 : px_cmp .gt v6 v2 with
    | true =>
      have h := cd_t hb13 h
      refine py_ic (pc := 56) (len := 3) true rfl hb13 ?_
      refine py_aln (pc := 132) (len := 1) (j := 0) rfl hk rfl ?_
      refine py_its (pc := 133) (pc1 := 134) (lv1 := lv) (st1 := [.int (Int32.ofInt 0), .ref 69]) 1 (fun _ _ _ _ => rfl) ?_
      have h := sb_e h
      refine py_pI (pc := 134) (len := 3) (cs := [69]) rfl rfl rfl List.mem_cons_self hS rfl rfl rfl rfl ?_
      have hS15 : oS (wF hp 69 1 (.int (Int32.ofInt 0))) := oS_wI (cs := [69]) (ci := 9) rfl List.mem_cons_self hS
      generalize (wF hp 69 1 (.int (Int32.ofInt 0))) = h14 at h hS15 ⊢
      refine py_aln (pc := 137) (len := 1) (j := 0) rfl hk rfl ?_
      refine py_iln (pc := 138) (len := 1) (j := 3) rfl hk rfl ?_
      cases hb16 : px_cmp .ne v3 0 with
      | true =>
        have h := cd_t hb16 h
        refine py_if (pc := 139) (len := 3) true rfl hb16 ?_
        refine py_il (pc := 146) (len := 2) (j := 4) rfl hk rfl ?_
        refine py_its (pc := 148) (pc1 := 149) (lv1 := lv) (st1 := [.long v4.toInt64, .ref 69]) 1 (fun _ _ _ _ => rfl) ?_
        obtain ⟨q17, hq18, h⟩ := bd_e h
        obtain ⟨hC19, hS20⟩ := fx_M_enters hS15 hq18
        refine py_vi (pc := 149) (mi := mi_M_enters) (cs := [69]) (N := mm_M_enters) rfl rfl rfl rfl List.mem_cons_self hS15 rfl (Nat.le_of_ble_eq_true rfl) (Nat.le_of_ble_eq_true rfl) rfl rfl hC19 ?_
        show px_Y mm_M_old 152 lv [] q17 _ _
        refine py_aln (pc := 152) (len := 1) (j := 0) rfl hk rfl ?_
        refine py_il (pc := 153) (len := 2) (j := 5) rfl hk rfl ?_
        refine py_its (pc := 155) (pc1 := 156) (lv1 := lv) (st1 := [.long v5.toInt64, .ref 69]) 1 (fun _ _ _ _ => rfl) ?_
        obtain ⟨q21, hq22, h⟩ := bd_e h
        obtain ⟨hC23, hS24⟩ := fx_M_enters hS20 hq22
        refine py_vi (pc := 156) (mi := mi_M_enters) (cs := [69]) (N := mm_M_enters) rfl rfl rfl rfl List.mem_cons_self hS20 rfl (Nat.le_of_ble_eq_true rfl) (Nat.le_of_ble_eq_true rfl) rfl rfl hC23 ?_
        show px_Y mm_M_old 159 lv [] q21 _ _
        refine py_iln (pc := 159) (len := 1) (j := 3) rfl hk rfl ?_
        have h := Option.some.inj h
        subst h
        exact py_ir (pc := 160) (len := 1) (ty := .int) rfl rfl rfl hS24
      | false =>
        have h := cd_f hb16 h
        refine py_if (pc := 139) (len := 3) false rfl hb16 ?_
        refine py_its (pc := 142) (pc1 := 149) (lv1 := lv) (st1 := [.long (Int64.ofNat 0), .ref 69]) 2 (fun _ _ _ _ => rfl) ?_
        obtain ⟨q25, hq26, h⟩ := bd_e h
        obtain ⟨hC27, hS28⟩ := fx_M_enters hS15 hq26
        refine py_vi (pc := 149) (mi := mi_M_enters) (cs := [69]) (N := mm_M_enters) rfl rfl rfl rfl List.mem_cons_self hS15 rfl (Nat.le_of_ble_eq_true rfl) (Nat.le_of_ble_eq_true rfl) rfl rfl hC27 ?_
        show px_Y mm_M_old 152 lv [] q25 _ _
        refine py_aln (pc := 152) (len := 1) (j := 0) rfl hk rfl ?_
        refine py_il (pc := 153) (len := 2) (j := 5) rfl hk rfl ?_
        refine py_its (pc := 155) (pc1 := 156) (lv1 := lv) (st1 := [.long v5.toInt64, .ref 69]) 1 (fun _ _ _ _ => rfl) ?_
        obtain ⟨q29, hq30, h⟩ := bd_e h
        obtain ⟨hC31, hS32⟩ := fx_M_enters hS28 hq30
        refine py_vi (pc := 156) (mi := mi_M_enters) (cs := [69]) (N := mm_M_enters) rfl rfl rfl rfl List.mem_cons_self hS28 rfl (Nat.le_of_ble_eq_true rfl) (Nat.le_of_ble_eq_true rfl) rfl rfl hC31 ?_
        show px_Y mm_M_old 159 lv [] q29 _ _
        refine py_iln (pc := 159) (len := 1) (j := 3) rfl hk rfl ?_
        have h := Option.some.inj h
        subst h
        exact py_ir (pc := 160) (len := 1) (ty := .int) rfl rfl rfl hS32
    | false =>
      have h := cd_f hb13 h
      refine py_ic (pc := 56) (len := 3) false rfl hb13 ?_
      refine py_il (pc := 59) (len := 2) (j := 6) rfl hk rfl ?_
      refine py_iln (pc := 61) (len := 1) (j := 2) rfl hk rfl ?_
      refine py_its (pc := 62) (pc1 := 65) (lv1 := lv) (st1 := [.int (v6 &&& (v2 ^^^ (Int32.ofInt (-1))))]) 3 (fun _ _ _ _ => rfl) ?_
      cases hb33 : px_cmp .eq (v6 &&& (v2 ^^^ (Int32.ofInt (-1)))) 0 with
      | true =>
        have h := cd_t hb33 h
        refine py_if (pc := 65) (len := 3) true rfl hb33 ?_
        refine py_aln (pc := 71) (len := 1) (j := 0) rfl hk rfl ?_
        refine py_iln (pc := 72) (len := 1) (j := 1) rfl hk rfl ?_
        refine py_iln (pc := 73) (len := 1) (j := 2) rfl hk rfl ?_
        refine py_il (pc := 74) (len := 2) (j := 6) rfl hk rfl ?_
        obtain ⟨q34, hq35, h⟩ := bd_e h
        have hC36 := (fx_M_packing hS hq35).1
        refine py_vi (pc := 76) (mi := mi_M_packing) (cs := [69]) (N := mm_M_packing) rfl rfl rfl rfl List.mem_cons_self hS rfl (Nat.le_of_ble_eq_true rfl) (Nat.le_of_ble_eq_true rfl) rfl rfl hC36 ?_
        show px_Y mm_M_old 79 lv [.int q34] hp _ _
        refine py_sti (pc := 79) (len := 2) (j := 7) rfl rfl hk (fun lv37 hk38 => ?_)
        have hk38 : lk lv37 [(7, .int q34), (0, .ref 69), (1, .int v1), (2, .int v2), (3, .int v3), (4, .int v4), (5, .int v5), (6, .int v6)] := hk38
        refine py_aln (pc := 81) (len := 1) (j := 0) rfl hk38 rfl ?_
        refine py_iln (pc := 82) (len := 1) (j := 1) rfl hk38 rfl ?_
        refine py_il (pc := 83) (len := 2) (j := 7) rfl hk38 rfl ?_
        obtain ⟨q39, hq40, h⟩ := bd_e h
        obtain ⟨hC41, hS42⟩ := fx_M_lets hS hq40
        refine py_vi (pc := 85) (mi := mi_M_lets) (cs := [69]) (N := mm_M_lets) rfl rfl rfl rfl List.mem_cons_self hS rfl (Nat.le_of_ble_eq_true rfl) (Nat.le_of_ble_eq_true rfl) rfl rfl hC41 ?_
        show px_Y mm_M_old 88 lv37 [.long q39.1] q39.2 _ _
        refine py_stl (pc := 88) (len := 2) (j := 8) rfl rfl hk38 (fun lv43 hk44 => ?_)
        have hk44 : lk lv43 [(8, .long q39.1), (7, .int q34), (0, .ref 69), (1, .int v1), (2, .int v2), (3, .int v3), (4, .int v4), (5, .int v5), (6, .int v6)] := hk44
        refine py_ll (pc := 90) (len := 2) (j := 8) rfl hk44 rfl ?_
        refine py_its (pc := 92) (pc1 := 95) (lv1 := lv43) (st1 := [.long (Int64.ofInt (-2)), .long q39.1]) 1 (fun _ _ _ _ => rfl) ?_
        cases hb45 : px_cmp .ne (lg_cmp q39.1 (Int64.ofInt (-2))) 0 with
        | true =>
          have h := cd_t hb45 h
          refine py_lc (pc := 95) (len := 1) true rfl rfl hb45 ?_
          refine py_ll (pc := 102) (len := 2) (j := 8) rfl hk44 rfl ?_
          refine py_its (pc := 104) (pc1 := 105) (lv1 := lv43) (st1 := [.long (Int64.ofNat 0), .long q39.1]) 1 (fun _ _ _ _ => rfl) ?_
          cases hb46 : px_cmp .lt (lg_cmp q39.1 (Int64.ofNat 0)) 0 with
          | true =>
            have h := cd_t hb46 h
            refine py_lc (pc := 105) (len := 1) true rfl rfl hb46 ?_
            refine py_inc (pc := 126) (len := 3) (j := 6) (n := 1) rfl rfl hk44 rfl (fun lv47 hk48 => ?_)
            have hk48 : lk lv47 [(6, .int (v6 + Int32.ofInt 1)), (8, .long q39.1), (7, .int q34), (0, .ref 69), (1, .int v1), (2, .int v2), (3, .int v3), (4, .int v4), (5, .int v5)] := hk48
            refine py_its (pc := 129) (pc1 := 53) (lv1 := lv47) (st1 := []) 1 (fun _ _ _ _ => rfl) ?_
            exact ih v3 v4 v5 (v6 + Int32.ofInt 1) q39.2 lv47 _ hS42 ⟨lk_find hk48 rfl, lk_find hk48 rfl, lk_find hk48 rfl, lk_find hk48 rfl, lk_find hk48 rfl, lk_find hk48 rfl, lk_find hk48 rfl, trivial⟩ h
          | false =>
            have h := cd_f hb46 h
            refine py_lc (pc := 105) (len := 1) false rfl rfl hb46 ?_
            refine py_inc (pc := 109) (len := 3) (j := 3) (n := 1) rfl rfl hk44 rfl (fun lv49 hk50 => ?_)
            have hk50 : lk lv49 [(3, .int (v3 + Int32.ofInt 1)), (8, .long q39.1), (7, .int q34), (0, .ref 69), (1, .int v1), (2, .int v2), (4, .int v4), (5, .int v5), (6, .int v6)] := hk50
            refine py_il (pc := 112) (len := 2) (j := 4) rfl hk50 rfl ?_
            refine py_il (pc := 114) (len := 2) (j := 7) rfl hk50 rfl ?_
            refine py_its (pc := 116) (pc1 := 117) (lv1 := lv49) (st1 := [.int (v4 &&& q34)]) 1 (fun _ _ _ _ => rfl) ?_
            refine py_sti (pc := 117) (len := 2) (j := 4) rfl rfl hk50 (fun lv51 hk52 => ?_)
            have hk52 : lk lv51 [(4, .int (v4 &&& q34)), (3, .int (v3 + Int32.ofInt 1)), (8, .long q39.1), (7, .int q34), (0, .ref 69), (1, .int v1), (2, .int v2), (5, .int v5), (6, .int v6)] := hk52
            refine py_il (pc := 119) (len := 2) (j := 5) rfl hk52 rfl ?_
            refine py_il (pc := 121) (len := 2) (j := 7) rfl hk52 rfl ?_
            refine py_its (pc := 123) (pc1 := 124) (lv1 := lv51) (st1 := [.int (v5 ||| q34)]) 1 (fun _ _ _ _ => rfl) ?_
            refine py_sti (pc := 124) (len := 2) (j := 5) rfl rfl hk52 (fun lv53 hk54 => ?_)
            have hk54 : lk lv53 [(5, .int (v5 ||| q34)), (4, .int (v4 &&& q34)), (3, .int (v3 + Int32.ofInt 1)), (8, .long q39.1), (7, .int q34), (0, .ref 69), (1, .int v1), (2, .int v2), (6, .int v6)] := hk54
            refine py_inc (pc := 126) (len := 3) (j := 6) (n := 1) rfl rfl hk54 rfl (fun lv55 hk56 => ?_)
            have hk56 : lk lv55 [(6, .int (v6 + Int32.ofInt 1)), (5, .int (v5 ||| q34)), (4, .int (v4 &&& q34)), (3, .int (v3 + Int32.ofInt 1)), (8, .long q39.1), (7, .int q34), (0, .ref 69), (1, .int v1), (2, .int v2)] := hk56
            refine py_its (pc := 129) (pc1 := 53) (lv1 := lv55) (st1 := []) 1 (fun _ _ _ _ => rfl) ?_
            exact ih (v3 + Int32.ofInt 1) (v4 &&& q34) (v5 ||| q34) (v6 + Int32.ofInt 1) q39.2 lv55 _ hS42 ⟨lk_find hk56 rfl, lk_find hk56 rfl, lk_find hk56 rfl, lk_find hk56 rfl, lk_find hk56 rfl, lk_find hk56 rfl, lk_find hk56 rfl, trivial⟩ h
        | false =>
          have h := cd_f hb45 h
          refine py_lc (pc := 95) (len := 1) false rfl rfl hb45 ?_
          refine py_its (pc := 99) (pc1 := 101) (lv1 := lv43) (st1 := [.int (Int8.ofInt (-3)).toInt32]) 1 (fun _ _ _ _ => rfl) ?_
          have h := Option.some.inj h
          subst h
          exact py_ir (pc := 101) (len := 1) (ty := .int) rfl rfl rfl hS42
      | false =>
        have h := cd_f hb33 h
        refine py_if (pc := 65) (len := 3) false rfl hb33 ?_
        refine py_its (pc := 68) (pc1 := 126) (lv1 := lv) (st1 := []) 1 (fun _ _ _ _ => rfl) ?_
        refine py_inc (pc := 126) (len := 3) (j := 6) (n := 1) rfl rfl hk rfl (fun lv57 hk58 => ?_)
        have hk58 : lk lv57 [(6, .int (v6 + Int32.ofInt 1)), (0, .ref 69), (1, .int v1), (2, .int v2), (3, .int v3), (4, .int v4), (5, .int v5)] := hk58
        refine py_its (pc := 129) (pc1 := 53) (lv1 := lv57) (st1 := []) 1 (fun _ _ _ _ => rfl) ?_
        exact ih v3 v4 v5 (v6 + Int32.ofInt 1) hp lv57 _ hS ⟨lk_find hk58 rfl, lk_find hk58 rfl, lk_find hk58 rfl, lk_find hk58 rfl, lk_find hk58 rfl, lk_find hk58 rfl, lk_find hk58 rfl, trivial⟩ h
noncomputable def fn_M_old (a1 : Int32) (a2 : Int32) (hp : px_H) : Option (Int32 × px_H) :=
  sb (wF hp 69 0 (.int (Int32.ofInt 0))) fun h1 =>
  (fn_M_isBag a1 h1).bind fun q3 =>
  bif px_cmp .eq q3 0 then
    some ((Int32.ofInt (-1)), h1)
  else
    (fn_M_isSet a2 h1).bind fun q7 =>
    bif px_cmp .eq q7 0 then
      some ((Int32.ofInt (-1)), h1)
    else
      bif px_cmp .gt (nm_bc a2) (Int8.ofInt 6).toInt32 then
        some ((Int32.ofInt (-1)), h1)
      else
        bif px_cmp .le (gI h1 69 49) (gI h1 69 11) then
          fn_M_old_L53 a1 a2 fu (Int32.ofInt 0) (Int32.ofInt (-1)) (Int32.ofInt 0) (Int32.ofInt 0) h1
        else
          some ((Int32.ofInt (-1)), h1)
theorem fx_M_old {a1 : Int32} {a2 : Int32} {hp : px_H} {res : Int32 × px_H} (hS : oS hp) (h : fn_M_old a1 a2 hp = some res) : px_C nm_T nm_P mi_M_old [.ref 69, .int a1, .int a2] hp (some (.int res.1)) res.2 ∧ oS res.2 := by
  unfold fn_M_old at h
  refine py_C (M := mm_M_old) rfl (Nat.le_of_ble_eq_true rfl) ?_
  show px_Y mm_M_old 0 [(0, .ref 69), (1, .int a1), (2, .int a2)] [] hp _ _
  refine py_its (pc := 0) (pc1 := 2) (lv1 := [(0, .ref 69), (1, .int a1), (2, .int a2)]) (st1 := [.int (Int32.ofInt 0), .ref 69]) 2 (fun _ _ _ _ => rfl) ?_
  have h := sb_e h
  refine py_pI (pc := 2) (len := 3) (cs := [69]) rfl rfl rfl List.mem_cons_self hS rfl rfl rfl rfl ?_
  have hS2 : oS (wF hp 69 0 (.int (Int32.ofInt 0))) := oS_wI (cs := [69]) (ci := 9) rfl List.mem_cons_self hS
  generalize (wF hp 69 0 (.int (Int32.ofInt 0))) = h1 at h hS2 ⊢
  refine py_its (pc := 5) (pc1 := 6) (lv1 := [(0, .ref 69), (1, .int a1), (2, .int a2)]) (st1 := [.int a1]) 1 (fun _ _ _ _ => rfl) ?_
  obtain ⟨q3, hq4, h⟩ := bd_e h
  have hC5 := (fx_M_isBag hS2 hq4).1
  refine py_st (pc := 6) (mi := mi_M_isBag) (N := mm_M_isBag) rfl rfl rfl (Nat.le_of_ble_eq_true rfl) (Nat.le_of_ble_eq_true rfl) rfl rfl hC5 ?_
  show px_Y mm_M_old 9 [(0, .ref 69), (1, .int a1), (2, .int a2)] [.int q3] h1 _ _
  cases hb6 : px_cmp .eq q3 0 with
  | true =>
    have h := cd_t hb6 h
    refine py_if (pc := 9) (len := 3) true rfl hb6 ?_
    refine py_its (pc := 40) (pc1 := 41) (lv1 := [(0, .ref 69), (1, .int a1), (2, .int a2)]) (st1 := [.int (Int32.ofInt (-1))]) 1 (fun _ _ _ _ => rfl) ?_
    have h := Option.some.inj h
    subst h
    exact py_ir (pc := 41) (len := 1) (ty := .int) rfl rfl rfl hS2
  | false =>
    have h := cd_f hb6 h
    refine py_if (pc := 9) (len := 3) false rfl hb6 ?_
    refine py_its (pc := 12) (pc1 := 14) (lv1 := [(0, .ref 69), (1, .int a1), (2, .int a2)]) (st1 := [.int a2, .ref 69]) 2 (fun _ _ _ _ => rfl) ?_
    obtain ⟨q7, hq8, h⟩ := bd_e h
    have hC9 := (fx_M_isSet hS2 hq8).1
    refine py_vi (pc := 14) (mi := mi_M_isSet) (cs := [69]) (N := mm_M_isSet) rfl rfl rfl rfl List.mem_cons_self hS2 rfl (Nat.le_of_ble_eq_true rfl) (Nat.le_of_ble_eq_true rfl) rfl rfl hC9 ?_
    show px_Y mm_M_old 17 [(0, .ref 69), (1, .int a1), (2, .int a2)] [.int q7] h1 _ _
    cases hb10 : px_cmp .eq q7 0 with
    | true =>
      have h := cd_t hb10 h
      refine py_if (pc := 17) (len := 3) true rfl hb10 ?_
      refine py_its (pc := 40) (pc1 := 41) (lv1 := [(0, .ref 69), (1, .int a1), (2, .int a2)]) (st1 := [.int (Int32.ofInt (-1))]) 1 (fun _ _ _ _ => rfl) ?_
      have h := Option.some.inj h
      subst h
      exact py_ir (pc := 41) (len := 1) (ty := .int) rfl rfl rfl hS2
    | false =>
      have h := cd_f hb10 h
      refine py_if (pc := 17) (len := 3) false rfl hb10 ?_
      refine py_its (pc := 20) (pc1 := 21) (lv1 := [(0, .ref 69), (1, .int a1), (2, .int a2)]) (st1 := [.int a2]) 1 (fun _ _ _ _ => rfl) ?_
      refine py_st (pc := 21) (mi := mi_I_bitCount) (N := mm_I_bitCount) rfl rfl rfl (Nat.le_of_ble_eq_true rfl) (Nat.le_of_ble_eq_true rfl) rfl rfl (nm_bc_C a2 h1) ?_
      show px_Y mm_M_old 24 [(0, .ref 69), (1, .int a1), (2, .int a2)] [.int (nm_bc a2)] h1 _ _
      refine py_its (pc := 24) (pc1 := 26) (lv1 := [(0, .ref 69), (1, .int a1), (2, .int a2)]) (st1 := [.int (Int8.ofInt 6).toInt32, .int (nm_bc a2)]) 1 (fun _ _ _ _ => rfl) ?_
      cases hb11 : px_cmp .gt (nm_bc a2) (Int8.ofInt 6).toInt32 with
      | true =>
        have h := cd_t hb11 h
        refine py_ic (pc := 26) (len := 3) true rfl hb11 ?_
        refine py_its (pc := 40) (pc1 := 41) (lv1 := [(0, .ref 69), (1, .int a1), (2, .int a2)]) (st1 := [.int (Int32.ofInt (-1))]) 1 (fun _ _ _ _ => rfl) ?_
        have h := Option.some.inj h
        subst h
        exact py_ir (pc := 41) (len := 1) (ty := .int) rfl rfl rfl hS2
      | false =>
        have h := cd_f hb11 h
        refine py_ic (pc := 26) (len := 3) false rfl hb11 ?_
        refine py_its (pc := 29) (pc1 := 30) (lv1 := [(0, .ref 69), (1, .int a1), (2, .int a2)]) (st1 := [.ref 69]) 1 (fun _ _ _ _ => rfl) ?_
        refine py_gI (pc := 30) (len := 3) (cs := [69]) rfl rfl rfl List.mem_cons_self hS2 ?_
        refine py_its (pc := 33) (pc1 := 34) (lv1 := [(0, .ref 69), (1, .int a1), (2, .int a2)]) (st1 := [.ref 69, .int (gI h1 69 49)]) 1 (fun _ _ _ _ => rfl) ?_
        refine py_gI (pc := 34) (len := 3) (cs := [69]) rfl rfl rfl List.mem_cons_self hS2 ?_
        cases hb12 : px_cmp .le (gI h1 69 49) (gI h1 69 11) with
        | true =>
          have h := cd_t hb12 h
          refine py_ic (pc := 37) (len := 3) true rfl hb12 ?_
          refine py_its (pc := 42) (pc1 := 53) (lv1 := [(6, .int (Int32.ofInt 0)), (5, .int (Int32.ofInt 0)), (4, .int (Int32.ofInt (-1))), (3, .int (Int32.ofInt 0)), (0, .ref 69), (1, .int a1), (2, .int a2)]) (st1 := []) 8 (fun _ _ _ _ => rfl) ?_
          exact fl_M_old_L53 fu (Int32.ofInt 0) (Int32.ofInt (-1)) (Int32.ofInt 0) (Int32.ofInt 0) h1 [(6, .int (Int32.ofInt 0)), (5, .int (Int32.ofInt 0)), (4, .int (Int32.ofInt (-1))), (3, .int (Int32.ofInt 0)), (0, .ref 69), (1, .int a1), (2, .int a2)] _ hS2 ⟨rfl, rfl, rfl, rfl, rfl, rfl, rfl, trivial⟩ h
        | false =>
          have h := cd_f hb12 h
          refine py_ic (pc := 37) (len := 3) false rfl hb12 ?_
          refine py_its (pc := 40) (pc1 := 41) (lv1 := [(0, .ref 69), (1, .int a1), (2, .int a2)]) (st1 := [.int (Int32.ofInt (-1))]) 1 (fun _ _ _ _ => rfl) ?_
          have h := Option.some.inj h
          subst h
          exact py_ir (pc := 41) (len := 1) (ty := .int) rfl rfl rfl hS2
/-! M_seldom -/
noncomputable def fn_M_seldom  (hp : px_H) : Option (Int32 × px_H) :=
  sb (wF hp 69 0 (.int (Int32.ofInt 0))) fun h1 =>
  bif px_cmp .le (gI h1 69 49) (gI h1 69 11) then
    (fn_M_lets (Int32.ofInt 0) (aI h1 76 (Int32.ofInt 0).toNatClampNeg) h1).bind fun q4 =>
    bif px_cmp .ne (lg_cmp q4.1 (Int64.ofInt (-2))) 0 then
      sb (wF q4.2 69 1 (.int (Int32.ofInt 0))) fun h9 =>
      (fn_M_enters (if q4.1 < (Int64.ofNat 0) then (Int64.ofNat 0) else q4.1) h9).bind fun q11 =>
      some ((Int32.ofInt 0), q11)
    else
      some ((Int8.ofInt (-3)).toInt32, q4.2)
  else
    some ((Int32.ofInt (-1)), h1)
theorem fx_M_seldom  {hp : px_H} {res : Int32 × px_H} (hS : oS hp) (h : fn_M_seldom hp = some res) : px_C nm_T nm_P mi_M_seldom [.ref 69] hp (some (.int res.1)) res.2 ∧ oS res.2 := by
  unfold fn_M_seldom at h
  refine py_C (M := mm_M_seldom) rfl (Nat.le_of_ble_eq_true rfl) ?_
  show px_Y mm_M_seldom 0 [(0, .ref 69)] [] hp _ _
  refine py_its (pc := 0) (pc1 := 2) (lv1 := [(0, .ref 69)]) (st1 := [.int (Int32.ofInt 0), .ref 69]) 2 (fun _ _ _ _ => rfl) ?_
  have h := sb_e h
  refine py_pI (pc := 2) (len := 3) (cs := [69]) rfl rfl rfl List.mem_cons_self hS rfl rfl rfl rfl ?_
  have hS2 : oS (wF hp 69 0 (.int (Int32.ofInt 0))) := oS_wI (cs := [69]) (ci := 9) rfl List.mem_cons_self hS
  generalize (wF hp 69 0 (.int (Int32.ofInt 0))) = h1 at h hS2 ⊢
  refine py_its (pc := 5) (pc1 := 6) (lv1 := [(0, .ref 69)]) (st1 := [.ref 69]) 1 (fun _ _ _ _ => rfl) ?_
  refine py_gI (pc := 6) (len := 3) (cs := [69]) rfl rfl rfl List.mem_cons_self hS2 ?_
  refine py_its (pc := 9) (pc1 := 10) (lv1 := [(0, .ref 69)]) (st1 := [.ref 69, .int (gI h1 69 49)]) 1 (fun _ _ _ _ => rfl) ?_
  refine py_gI (pc := 10) (len := 3) (cs := [69]) rfl rfl rfl List.mem_cons_self hS2 ?_
  cases hb3 : px_cmp .le (gI h1 69 49) (gI h1 69 11) with
  | true =>
    have h := cd_t hb3 h
    refine py_ic (pc := 13) (len := 3) true rfl hb3 ?_
    refine py_its (pc := 18) (pc1 := 21) (lv1 := [(0, .ref 69)]) (st1 := [.ref 69, .int (Int32.ofInt 0), .ref 69]) 3 (fun _ _ _ _ => rfl) ?_
    refine py_g1 76 (pc := 21) (len := 3) (cs := [69]) rfl rfl rfl List.mem_cons_self hS2 ?_
    refine py_its (pc := 24) (pc1 := 25) (lv1 := [(0, .ref 69)]) (st1 := [.int (Int32.ofInt 0), .ref 76, .int (Int32.ofInt 0), .ref 69]) 1 (fun _ _ _ _ => rfl) ?_
    refine py_ai (pc := 25) (len := 1) (cs := [76]) (t := 33) (n := 2) rfl rfl rfl rfl List.mem_cons_self hS2 ?_
    obtain ⟨q4, hq5, h⟩ := bd_e h
    obtain ⟨hC6, hS7⟩ := fx_M_lets hS2 hq5
    refine py_vi (pc := 26) (mi := mi_M_lets) (cs := [69]) (N := mm_M_lets) rfl rfl rfl rfl List.mem_cons_self hS2 rfl (Nat.le_of_ble_eq_true rfl) (Nat.le_of_ble_eq_true rfl) rfl rfl hC6 ?_
    show px_Y mm_M_seldom 29 [(0, .ref 69)] [.long q4.1] q4.2 _ _
    refine py_its (pc := 29) (pc1 := 34) (lv1 := [(1, .long q4.1), (0, .ref 69)]) (st1 := [.long (Int64.ofInt (-2)), .long q4.1]) 3 (fun _ _ _ _ => rfl) ?_
    cases hb8 : px_cmp .ne (lg_cmp q4.1 (Int64.ofInt (-2))) 0 with
    | true =>
      have h := cd_t hb8 h
      refine py_lc (pc := 34) (len := 1) true rfl rfl hb8 ?_
      refine py_its (pc := 41) (pc1 := 43) (lv1 := [(1, .long q4.1), (0, .ref 69)]) (st1 := [.int (Int32.ofInt 0), .ref 69]) 2 (fun _ _ _ _ => rfl) ?_
      have h := sb_e h
      refine py_pI (pc := 43) (len := 3) (cs := [69]) rfl rfl rfl List.mem_cons_self hS7 rfl rfl rfl rfl ?_
      have hS10 : oS (wF q4.2 69 1 (.int (Int32.ofInt 0))) := oS_wI (cs := [69]) (ci := 9) rfl List.mem_cons_self hS7
      generalize (wF q4.2 69 1 (.int (Int32.ofInt 0))) = h9 at h hS10 ⊢
      refine py_its (pc := 46) (pc1 := 49) (lv1 := [(1, .long q4.1), (0, .ref 69)]) (st1 := [.long q4.1, .long (Int64.ofNat 0), .ref 69]) 3 (fun _ _ _ _ => rfl) ?_
      refine py_mth (pc := 49) (w := 2) (st' := [.long (if q4.1 < (Int64.ofNat 0) then (Int64.ofNat 0) else q4.1), .ref 69]) rfl rfl rfl (Nat.le_of_ble_eq_true rfl) ?_
      obtain ⟨q11, hq12, h⟩ := bd_e h
      obtain ⟨hC13, hS14⟩ := fx_M_enters hS10 hq12
      refine py_vi (pc := 52) (mi := mi_M_enters) (cs := [69]) (N := mm_M_enters) rfl rfl rfl rfl List.mem_cons_self hS10 rfl (Nat.le_of_ble_eq_true rfl) (Nat.le_of_ble_eq_true rfl) rfl rfl hC13 ?_
      show px_Y mm_M_seldom 55 [(1, .long q4.1), (0, .ref 69)] [] q11 _ _
      refine py_its (pc := 55) (pc1 := 56) (lv1 := [(1, .long q4.1), (0, .ref 69)]) (st1 := [.int (Int32.ofInt 0)]) 1 (fun _ _ _ _ => rfl) ?_
      have h := Option.some.inj h
      subst h
      exact py_ir (pc := 56) (len := 1) (ty := .int) rfl rfl rfl hS14
    | false =>
      have h := cd_f hb8 h
      refine py_lc (pc := 34) (len := 1) false rfl rfl hb8 ?_
      refine py_its (pc := 38) (pc1 := 40) (lv1 := [(1, .long q4.1), (0, .ref 69)]) (st1 := [.int (Int8.ofInt (-3)).toInt32]) 1 (fun _ _ _ _ => rfl) ?_
      have h := Option.some.inj h
      subst h
      exact py_ir (pc := 40) (len := 1) (ty := .int) rfl rfl rfl hS7
  | false =>
    have h := cd_f hb3 h
    refine py_ic (pc := 13) (len := 3) false rfl hb3 ?_
    refine py_its (pc := 16) (pc1 := 17) (lv1 := [(0, .ref 69)]) (st1 := [.int (Int32.ofInt (-1))]) 1 (fun _ _ _ _ => rfl) ?_
    have h := Option.some.inj h
    subst h
    exact py_ir (pc := 17) (len := 1) (ty := .int) rfl rfl rfl hS2
/-! M_toldBits -/
noncomputable def fb_M_toldBits_L4 (hp : px_H) (rc : Int32 → Int32 → Option (Int32)) (v1 : Int32) (v2 : Int32) : Option (Int32) :=
  bif px_cmp .ge v2 (Int32.ofInt 4) then
    some v1
  else
    bif px_inR v2 4 then
    bif px_cmp .eq (aI hp 82 v2.toNatClampNeg) 0 then
      rc (v1 ||| (Int32.ofInt 0)) (v2 + Int32.ofInt 1)
    else
      rc (v1 ||| ((Int32.ofInt 1) <<< ((v2 - (Int32.ofInt 1)) &&& 31))) (v2 + Int32.ofInt 1)
    else none
noncomputable def fn_M_toldBits_L4 (hp : px_H) : Nat → Int32 → Int32 → Option (Int32)
  | 0 => fun _ _ => none
  | n + 1 => fb_M_toldBits_L4 hp (fn_M_toldBits_L4 hp n)
theorem fl_M_toldBits_L4 {hp : px_H}  : ∀ (n : Nat) (v1 : Int32) (v2 : Int32) (lv : List (Nat × Value)) (res : Int32), oS hp → lk lv [(0, .ref 69), (1, .int v1), (2, .int v2)] → fn_M_toldBits_L4 hp n v1 v2 = some res → px_Y mm_M_toldBits 4 lv [] hp (some (.int res)) hp := by
  intro n
  induction n with
  | zero =>
    intro v1 v2 lv res hS hk h
    cases h
  | succ n ih =>
    intro v1 v2 lv res hS hk h
    have h : fb_M_toldBits_L4 hp (fn_M_toldBits_L4 hp n) v1 v2 = some res := h
    unfold fb_M_toldBits_L4 at h
    refine py_iln (pc := 4) (len := 1) (j := 2) rfl hk rfl ?_
    refine py_its (pc := 5) (pc1 := 6) (lv1 := lv) (st1 := [.int (Int32.ofInt 4), .int v2]) 1 (fun _ _ _ _ => rfl) ?_
    cases hb1 : px_cmp .ge v2 (Int32.ofInt 4) with
    | true =>
      have h := cd_t hb1 h
      refine py_ic (pc := 6) (len := 3) true rfl hb1 ?_
      refine py_iln (pc := 36) (len := 1) (j := 1) rfl hk rfl ?_
      have h := Option.some.inj h
      subst h
      exact py_ir (pc := 37) (len := 1) (ty := .int) rfl rfl rfl hS
    | false =>
      have h := cd_f hb1 h
      refine py_ic (pc := 6) (len := 3) false rfl hb1 ?_
      refine py_iln (pc := 9) (len := 1) (j := 1) rfl hk rfl ?_
      refine py_aln (pc := 10) (len := 1) (j := 0) rfl hk rfl ?_
      refine py_g1 82 (pc := 11) (len := 3) (cs := [69]) rfl rfl rfl List.mem_cons_self hS ?_
      refine py_iln (pc := 14) (len := 1) (j := 2) rfl hk rfl ?_
      obtain ⟨hi2, h⟩ := cd_n h
      refine py_ab (pc := 15) (len := 1) (cs := [82]) (t := 39) (n := 4) rfl rfl rfl hi2 List.mem_cons_self hS ?_
      cases hb3 : px_cmp .eq (aI hp 82 v2.toNatClampNeg) 0 with
      | true =>
        have h := cd_t hb3 h
        refine py_if (pc := 16) (len := 3) true rfl hb3 ?_
        refine py_its (pc := 27) (pc1 := 29) (lv1 := lv) (st1 := [.int (v1 ||| (Int32.ofInt 0))]) 2 (fun _ _ _ _ => rfl) ?_
        refine py_sin (pc := 29) (len := 1) (j := 1) rfl rfl hk (fun lv4 hk5 => ?_)
        have hk5 : lk lv4 [(1, .int (v1 ||| (Int32.ofInt 0))), (0, .ref 69), (2, .int v2)] := hk5
        refine py_inc (pc := 30) (len := 3) (j := 2) (n := 1) rfl rfl hk5 rfl (fun lv6 hk7 => ?_)
        have hk7 : lk lv6 [(2, .int (v2 + Int32.ofInt 1)), (1, .int (v1 ||| (Int32.ofInt 0))), (0, .ref 69)] := hk7
        refine py_its (pc := 33) (pc1 := 4) (lv1 := lv6) (st1 := []) 1 (fun _ _ _ _ => rfl) ?_
        exact ih (v1 ||| (Int32.ofInt 0)) (v2 + Int32.ofInt 1) lv6 _ hS ⟨lk_find hk7 rfl, lk_find hk7 rfl, lk_find hk7 rfl, trivial⟩ h
      | false =>
        have h := cd_f hb3 h
        refine py_if (pc := 16) (len := 3) false rfl hb3 ?_
        refine py_its (pc := 19) (pc1 := 20) (lv1 := lv) (st1 := [.int (Int32.ofInt 1), .int v1]) 1 (fun _ _ _ _ => rfl) ?_
        refine py_iln (pc := 20) (len := 1) (j := 2) rfl hk rfl ?_
        refine py_its (pc := 21) (pc1 := 29) (lv1 := lv) (st1 := [.int (v1 ||| ((Int32.ofInt 1) <<< ((v2 - (Int32.ofInt 1)) &&& 31)))]) 5 (fun _ _ _ _ => rfl) ?_
        refine py_sin (pc := 29) (len := 1) (j := 1) rfl rfl hk (fun lv8 hk9 => ?_)
        have hk9 : lk lv8 [(1, .int (v1 ||| ((Int32.ofInt 1) <<< ((v2 - (Int32.ofInt 1)) &&& 31)))), (0, .ref 69), (2, .int v2)] := hk9
        refine py_inc (pc := 30) (len := 3) (j := 2) (n := 1) rfl rfl hk9 rfl (fun lv10 hk11 => ?_)
        have hk11 : lk lv10 [(2, .int (v2 + Int32.ofInt 1)), (1, .int (v1 ||| ((Int32.ofInt 1) <<< ((v2 - (Int32.ofInt 1)) &&& 31)))), (0, .ref 69)] := hk11
        refine py_its (pc := 33) (pc1 := 4) (lv1 := lv10) (st1 := []) 1 (fun _ _ _ _ => rfl) ?_
        exact ih (v1 ||| ((Int32.ofInt 1) <<< ((v2 - (Int32.ofInt 1)) &&& 31))) (v2 + Int32.ofInt 1) lv10 _ hS ⟨lk_find hk11 rfl, lk_find hk11 rfl, lk_find hk11 rfl, trivial⟩ h
noncomputable def fn_M_toldBits  (hp : px_H) : Option (Int32) :=
  fn_M_toldBits_L4 hp fu (Int32.ofInt 0) (Int32.ofInt 1)
theorem fx_M_toldBits  {hp : px_H} {res : Int32} (hS : oS hp) (h : fn_M_toldBits hp = some res) : px_C nm_T nm_P mi_M_toldBits [.ref 69] hp (some (.int res)) hp ∧ oS hp := by
  unfold fn_M_toldBits at h
  refine py_C (M := mm_M_toldBits) rfl (Nat.le_of_ble_eq_true rfl) ?_
  show px_Y mm_M_toldBits 0 [(0, .ref 69)] [] hp _ _
  refine py_its (pc := 0) (pc1 := 4) (lv1 := [(2, .int (Int32.ofInt 1)), (1, .int (Int32.ofInt 0)), (0, .ref 69)]) (st1 := []) 4 (fun _ _ _ _ => rfl) ?_
  exact fl_M_toldBits_L4 fu (Int32.ofInt 0) (Int32.ofInt 1) [(2, .int (Int32.ofInt 1)), (1, .int (Int32.ofInt 0)), (0, .ref 69)] _ hS ⟨rfl, rfl, rfl, trivial⟩ h
/-! M_count -/
noncomputable def fn_M_count (a1 : Int32) (hp : px_H) : Option (Int32 × px_H) :=
  sb (wF hp 69 0 (.int (Int32.ofInt 0))) fun h1 =>
  bif px_cmp .eq a1 (Int32.ofInt 0) then
    some ((gI h1 69 3), h1)
  else
    bif px_cmp .eq a1 (Int32.ofInt 1) then
      some ((gI h1 69 11), h1)
    else
      bif px_cmp .eq a1 (Int32.ofInt 2) then
        some ((gI h1 69 31), h1)
      else
        bif px_cmp .eq a1 (Int32.ofInt 3) then
          some ((aI h1 81 (Int32.ofInt 0).toNatClampNeg), h1)
        else
          bif px_cmp .eq a1 (Int32.ofInt 4) then
            some ((gI h1 69 22), h1)
          else
            bif px_cmp .eq a1 (Int32.ofInt 5) then
              some ((gI h1 69 1), h1)
            else
              bif px_cmp .eq a1 (Int32.ofInt 6) then
                some ((gI h1 69 49), h1)
              else
                bif px_cmp .eq a1 (Int32.ofInt 7) then
                  some ((aI h1 76 (Int32.ofInt 0).toNatClampNeg), h1)
                else
                  bif px_cmp .eq a1 (Int32.ofInt 8) then
                    some ((aI h1 76 (Int32.ofInt 1).toNatClampNeg), h1)
                  else
                    bif px_cmp .eq a1 (Int32.ofInt 9) then
                      (fn_M_toldBits h1).bind fun q13 =>
                      some (q13, h1)
                    else
                      some ((Int32.ofInt (-1)), h1)
theorem fx_M_count {a1 : Int32} {hp : px_H} {res : Int32 × px_H} (hS : oS hp) (h : fn_M_count a1 hp = some res) : px_C nm_T nm_P mi_M_count [.ref 69, .int a1] hp (some (.int res.1)) res.2 ∧ oS res.2 := by
  unfold fn_M_count at h
  refine py_C (M := mm_M_count) rfl (Nat.le_of_ble_eq_true rfl) ?_
  show px_Y mm_M_count 0 [(0, .ref 69), (1, .int a1)] [] hp _ _
  refine py_its (pc := 0) (pc1 := 2) (lv1 := [(0, .ref 69), (1, .int a1)]) (st1 := [.int (Int32.ofInt 0), .ref 69]) 2 (fun _ _ _ _ => rfl) ?_
  have h := sb_e h
  refine py_pI (pc := 2) (len := 3) (cs := [69]) rfl rfl rfl List.mem_cons_self hS rfl rfl rfl rfl ?_
  have hS2 : oS (wF hp 69 0 (.int (Int32.ofInt 0))) := oS_wI (cs := [69]) (ci := 9) rfl List.mem_cons_self hS
  generalize (wF hp 69 0 (.int (Int32.ofInt 0))) = h1 at h hS2 ⊢
  refine py_its (pc := 5) (pc1 := 6) (lv1 := [(0, .ref 69), (1, .int a1)]) (st1 := [.int a1]) 1 (fun _ _ _ _ => rfl) ?_
  cases hb3 : px_cmp .eq a1 (Int32.ofInt 0) with
  | true =>
    have h := cd_t hb3 h
    refine py_tsw (pc := 6) (len := 54) (off := 54) rfl (by rw [sx_eq hb3]; rfl) ?_
    refine py_its (pc := 60) (pc1 := 61) (lv1 := [(0, .ref 69), (1, .int a1)]) (st1 := [.ref 69]) 1 (fun _ _ _ _ => rfl) ?_
    refine py_gI (pc := 61) (len := 3) (cs := [69]) rfl rfl rfl List.mem_cons_self hS2 ?_
    have h := Option.some.inj h
    subst h
    exact py_ir (pc := 64) (len := 1) (ty := .int) rfl rfl rfl hS2
  | false =>
    have h := cd_f hb3 h
    cases hb4 : px_cmp .eq a1 (Int32.ofInt 1) with
    | true =>
      have h := cd_t hb4 h
      refine py_tsw (pc := 6) (len := 54) (off := 59) rfl (by rw [sx_eq hb4]; rfl) ?_
      refine py_its (pc := 65) (pc1 := 66) (lv1 := [(0, .ref 69), (1, .int a1)]) (st1 := [.ref 69]) 1 (fun _ _ _ _ => rfl) ?_
      refine py_gI (pc := 66) (len := 3) (cs := [69]) rfl rfl rfl List.mem_cons_self hS2 ?_
      have h := Option.some.inj h
      subst h
      exact py_ir (pc := 69) (len := 1) (ty := .int) rfl rfl rfl hS2
    | false =>
      have h := cd_f hb4 h
      cases hb5 : px_cmp .eq a1 (Int32.ofInt 2) with
      | true =>
        have h := cd_t hb5 h
        refine py_tsw (pc := 6) (len := 54) (off := 64) rfl (by rw [sx_eq hb5]; rfl) ?_
        refine py_its (pc := 70) (pc1 := 71) (lv1 := [(0, .ref 69), (1, .int a1)]) (st1 := [.ref 69]) 1 (fun _ _ _ _ => rfl) ?_
        refine py_gI (pc := 71) (len := 3) (cs := [69]) rfl rfl rfl List.mem_cons_self hS2 ?_
        have h := Option.some.inj h
        subst h
        exact py_ir (pc := 74) (len := 1) (ty := .int) rfl rfl rfl hS2
      | false =>
        have h := cd_f hb5 h
        cases hb6 : px_cmp .eq a1 (Int32.ofInt 3) with
        | true =>
          have h := cd_t hb6 h
          refine py_tsw (pc := 6) (len := 54) (off := 69) rfl (by rw [sx_eq hb6]; rfl) ?_
          refine py_its (pc := 75) (pc1 := 76) (lv1 := [(0, .ref 69), (1, .int a1)]) (st1 := [.ref 69]) 1 (fun _ _ _ _ => rfl) ?_
          refine py_g1 81 (pc := 76) (len := 3) (cs := [69]) rfl rfl rfl List.mem_cons_self hS2 ?_
          refine py_its (pc := 79) (pc1 := 80) (lv1 := [(0, .ref 69), (1, .int a1)]) (st1 := [.int (Int32.ofInt 0), .ref 81]) 1 (fun _ _ _ _ => rfl) ?_
          refine py_ai (pc := 80) (len := 1) (cs := [81]) (t := 38) (n := 4) rfl rfl rfl rfl List.mem_cons_self hS2 ?_
          have h := Option.some.inj h
          subst h
          exact py_ir (pc := 81) (len := 1) (ty := .int) rfl rfl rfl hS2
        | false =>
          have h := cd_f hb6 h
          cases hb7 : px_cmp .eq a1 (Int32.ofInt 4) with
          | true =>
            have h := cd_t hb7 h
            refine py_tsw (pc := 6) (len := 54) (off := 76) rfl (by rw [sx_eq hb7]; rfl) ?_
            refine py_its (pc := 82) (pc1 := 83) (lv1 := [(0, .ref 69), (1, .int a1)]) (st1 := [.ref 69]) 1 (fun _ _ _ _ => rfl) ?_
            refine py_gI (pc := 83) (len := 3) (cs := [69]) rfl rfl rfl List.mem_cons_self hS2 ?_
            have h := Option.some.inj h
            subst h
            exact py_ir (pc := 86) (len := 1) (ty := .int) rfl rfl rfl hS2
          | false =>
            have h := cd_f hb7 h
            cases hb8 : px_cmp .eq a1 (Int32.ofInt 5) with
            | true =>
              have h := cd_t hb8 h
              refine py_tsw (pc := 6) (len := 54) (off := 81) rfl (by rw [sx_eq hb8]; rfl) ?_
              refine py_its (pc := 87) (pc1 := 88) (lv1 := [(0, .ref 69), (1, .int a1)]) (st1 := [.ref 69]) 1 (fun _ _ _ _ => rfl) ?_
              refine py_gI (pc := 88) (len := 3) (cs := [69]) rfl rfl rfl List.mem_cons_self hS2 ?_
              have h := Option.some.inj h
              subst h
              exact py_ir (pc := 91) (len := 1) (ty := .int) rfl rfl rfl hS2
            | false =>
              have h := cd_f hb8 h
              cases hb9 : px_cmp .eq a1 (Int32.ofInt 6) with
              | true =>
                have h := cd_t hb9 h
                refine py_tsw (pc := 6) (len := 54) (off := 86) rfl (by rw [sx_eq hb9]; rfl) ?_
                refine py_its (pc := 92) (pc1 := 93) (lv1 := [(0, .ref 69), (1, .int a1)]) (st1 := [.ref 69]) 1 (fun _ _ _ _ => rfl) ?_
                refine py_gI (pc := 93) (len := 3) (cs := [69]) rfl rfl rfl List.mem_cons_self hS2 ?_
                have h := Option.some.inj h
                subst h
                exact py_ir (pc := 96) (len := 1) (ty := .int) rfl rfl rfl hS2
              | false =>
                have h := cd_f hb9 h
                cases hb10 : px_cmp .eq a1 (Int32.ofInt 7) with
                | true =>
                  have h := cd_t hb10 h
                  refine py_tsw (pc := 6) (len := 54) (off := 91) rfl (by rw [sx_eq hb10]; rfl) ?_
                  refine py_its (pc := 97) (pc1 := 98) (lv1 := [(0, .ref 69), (1, .int a1)]) (st1 := [.ref 69]) 1 (fun _ _ _ _ => rfl) ?_
                  refine py_g1 76 (pc := 98) (len := 3) (cs := [69]) rfl rfl rfl List.mem_cons_self hS2 ?_
                  refine py_its (pc := 101) (pc1 := 102) (lv1 := [(0, .ref 69), (1, .int a1)]) (st1 := [.int (Int32.ofInt 0), .ref 76]) 1 (fun _ _ _ _ => rfl) ?_
                  refine py_ai (pc := 102) (len := 1) (cs := [76]) (t := 33) (n := 2) rfl rfl rfl rfl List.mem_cons_self hS2 ?_
                  have h := Option.some.inj h
                  subst h
                  exact py_ir (pc := 103) (len := 1) (ty := .int) rfl rfl rfl hS2
                | false =>
                  have h := cd_f hb10 h
                  cases hb11 : px_cmp .eq a1 (Int32.ofInt 8) with
                  | true =>
                    have h := cd_t hb11 h
                    refine py_tsw (pc := 6) (len := 54) (off := 98) rfl (by rw [sx_eq hb11]; rfl) ?_
                    refine py_its (pc := 104) (pc1 := 105) (lv1 := [(0, .ref 69), (1, .int a1)]) (st1 := [.ref 69]) 1 (fun _ _ _ _ => rfl) ?_
                    refine py_g1 76 (pc := 105) (len := 3) (cs := [69]) rfl rfl rfl List.mem_cons_self hS2 ?_
                    refine py_its (pc := 108) (pc1 := 109) (lv1 := [(0, .ref 69), (1, .int a1)]) (st1 := [.int (Int32.ofInt 1), .ref 76]) 1 (fun _ _ _ _ => rfl) ?_
                    refine py_ai (pc := 109) (len := 1) (cs := [76]) (t := 33) (n := 2) rfl rfl rfl rfl List.mem_cons_self hS2 ?_
                    have h := Option.some.inj h
                    subst h
                    exact py_ir (pc := 110) (len := 1) (ty := .int) rfl rfl rfl hS2
                  | false =>
                    have h := cd_f hb11 h
                    cases hb12 : px_cmp .eq a1 (Int32.ofInt 9) with
                    | true =>
                      have h := cd_t hb12 h
                      refine py_tsw (pc := 6) (len := 54) (off := 105) rfl (by rw [sx_eq hb12]; rfl) ?_
                      refine py_its (pc := 111) (pc1 := 112) (lv1 := [(0, .ref 69), (1, .int a1)]) (st1 := [.ref 69]) 1 (fun _ _ _ _ => rfl) ?_
                      obtain ⟨q13, hq14, h⟩ := bd_e h
                      have hC15 := (fx_M_toldBits hS2 hq14).1
                      refine py_vi (pc := 112) (mi := mi_M_toldBits) (cs := [69]) (N := mm_M_toldBits) rfl rfl rfl rfl List.mem_cons_self hS2 rfl (Nat.le_of_ble_eq_true rfl) (Nat.le_of_ble_eq_true rfl) rfl rfl hC15 ?_
                      show px_Y mm_M_count 115 [(0, .ref 69), (1, .int a1)] [.int q13] h1 _ _
                      have h := Option.some.inj h
                      subst h
                      exact py_ir (pc := 115) (len := 1) (ty := .int) rfl rfl rfl hS2
                    | false =>
                      have h := cd_f hb12 h
                      refine py_tsw (pc := 6) (len := 54) (off := 110) rfl (sx_tod (lo := 0) (hi := 9) (fun k h1 h2 => by rcases (show k = 0 ∨ k = 1 ∨ k = 2 ∨ k = 3 ∨ k = 4 ∨ k = 5 ∨ k = 6 ∨ k = 7 ∨ k = 8 ∨ k = 9 from by omega) with rfl | rfl | rfl | rfl | rfl | rfl | rfl | rfl | rfl | rfl <;> assumption)) ?_
                      refine py_its (pc := 116) (pc1 := 117) (lv1 := [(0, .ref 69), (1, .int a1)]) (st1 := [.int (Int32.ofInt (-1))]) 1 (fun _ _ _ _ => rfl) ?_
                      have h := Option.some.inj h
                      subst h
                      exact py_ir (pc := 117) (len := 1) (ty := .int) rfl rfl rfl hS2
/-! M_row -/
noncomputable def fn_M_row (a1 : Int32) (hp : px_H) : Option (Int64 × px_H) :=
  sb (wF hp 69 0 (.int (Int32.ofInt 0))) fun h1 =>
  bif px_cmp .ne (sx_in a1.toInt64 (Int64.ofNat 0) ((gI h1 69 1) - (Int32.ofInt 1)).toInt64) 0 then
    bif px_inR a1 64 then
    some ((aL h1 70 a1.toNatClampNeg), h1)
    else none
  else
    sb (wF h1 69 0 (.int (Int32.ofInt 1))) fun h5 =>
    some ((Int64.ofNat 0), h5)
theorem fx_M_row {a1 : Int32} {hp : px_H} {res : Int64 × px_H} (hS : oS hp) (h : fn_M_row a1 hp = some res) : px_C nm_T nm_P mi_M_row [.ref 69, .int a1] hp (some (.long res.1)) res.2 ∧ oS res.2 := by
  unfold fn_M_row at h
  refine py_C (M := mm_M_row) rfl (Nat.le_of_ble_eq_true rfl) ?_
  show px_Y mm_M_row 0 [(0, .ref 69), (1, .int a1)] [] hp _ _
  refine py_its (pc := 0) (pc1 := 2) (lv1 := [(0, .ref 69), (1, .int a1)]) (st1 := [.int (Int32.ofInt 0), .ref 69]) 2 (fun _ _ _ _ => rfl) ?_
  have h := sb_e h
  refine py_pI (pc := 2) (len := 3) (cs := [69]) rfl rfl rfl List.mem_cons_self hS rfl rfl rfl rfl ?_
  have hS2 : oS (wF hp 69 0 (.int (Int32.ofInt 0))) := oS_wI (cs := [69]) (ci := 9) rfl List.mem_cons_self hS
  generalize (wF hp 69 0 (.int (Int32.ofInt 0))) = h1 at h hS2 ⊢
  refine py_its (pc := 5) (pc1 := 9) (lv1 := [(0, .ref 69), (1, .int a1)]) (st1 := [.ref 69, .long (Int64.ofNat 0), .long a1.toInt64]) 4 (fun _ _ _ _ => rfl) ?_
  refine py_gI (pc := 9) (len := 3) (cs := [69]) rfl rfl rfl List.mem_cons_self hS2 ?_
  refine py_its (pc := 12) (pc1 := 15) (lv1 := [(0, .ref 69), (1, .int a1)]) (st1 := [.long ((gI h1 69 1) - (Int32.ofInt 1)).toInt64, .long (Int64.ofNat 0), .long a1.toInt64]) 3 (fun _ _ _ _ => rfl) ?_
  refine py_st (pc := 15) (mi := mi_M_in) (N := mm_M_in) rfl rfl rfl (Nat.le_of_ble_eq_true rfl) (Nat.le_of_ble_eq_true rfl) rfl rfl (sx_in_C a1.toInt64 (Int64.ofNat 0) ((gI h1 69 1) - (Int32.ofInt 1)).toInt64 h1) ?_
  show px_Y mm_M_row 18 [(0, .ref 69), (1, .int a1)] [.int (sx_in a1.toInt64 (Int64.ofNat 0) ((gI h1 69 1) - (Int32.ofInt 1)).toInt64)] h1 _ _
  cases hb3 : px_cmp .ne (sx_in a1.toInt64 (Int64.ofNat 0) ((gI h1 69 1) - (Int32.ofInt 1)).toInt64) 0 with
  | true =>
    have h := cd_t hb3 h
    refine py_if (pc := 18) (len := 3) true rfl hb3 ?_
    refine py_its (pc := 28) (pc1 := 29) (lv1 := [(0, .ref 69), (1, .int a1)]) (st1 := [.ref 69]) 1 (fun _ _ _ _ => rfl) ?_
    refine py_g1 70 (pc := 29) (len := 3) (cs := [69]) rfl rfl rfl List.mem_cons_self hS2 ?_
    refine py_its (pc := 32) (pc1 := 33) (lv1 := [(0, .ref 69), (1, .int a1)]) (st1 := [.int a1, .ref 70]) 1 (fun _ _ _ _ => rfl) ?_
    obtain ⟨hi4, h⟩ := cd_n h
    refine py_al (pc := 33) (len := 1) (cs := [70]) (t := 27) (n := 64) rfl rfl rfl hi4 List.mem_cons_self hS2 ?_
    have h := Option.some.inj h
    subst h
    exact py_lr (pc := 34) (len := 1) rfl rfl hS2
  | false =>
    have h := cd_f hb3 h
    refine py_if (pc := 18) (len := 3) false rfl hb3 ?_
    refine py_its (pc := 21) (pc1 := 23) (lv1 := [(0, .ref 69), (1, .int a1)]) (st1 := [.int (Int32.ofInt 1), .ref 69]) 2 (fun _ _ _ _ => rfl) ?_
    have h := sb_e h
    refine py_pI (pc := 23) (len := 3) (cs := [69]) rfl rfl rfl List.mem_cons_self hS2 rfl rfl rfl rfl ?_
    have hS6 : oS (wF h1 69 0 (.int (Int32.ofInt 1))) := oS_wI (cs := [69]) (ci := 9) rfl List.mem_cons_self hS2
    generalize (wF h1 69 0 (.int (Int32.ofInt 1))) = h5 at h hS6 ⊢
    refine py_its (pc := 26) (pc1 := 27) (lv1 := [(0, .ref 69), (1, .int a1)]) (st1 := [.long (Int64.ofNat 0)]) 1 (fun _ _ _ _ => rfl) ?_
    have h := Option.some.inj h
    subst h
    exact py_lr (pc := 27) (len := 1) rfl rfl hS6
