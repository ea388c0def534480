/-! run: draws and nth -/
theorem px_q_putf {T : px_T} {X : Option (Nat × (Nat → Int32))} {P : List px_M} {M : px_M} {pc len idx ci k a : Nat} {fl : Int} {lv : List (Nat × Value)} {st : List Value} {hp hp' : px_H} {r : Option Value} {fs : List Value} {v : Value} {nm : Nat} {tys : List FieldType} {ty : FieldType} (hf : px_find pc (px_cd M) = some (len, .putfield idx)) (hj : px_find idx (px_cp M) = some (0, ci, k, fl)) (hx : hp[a]? = some (.inr (ci, fs))) (hk : k < fs.length) (hT : T.2[ci]? = some (nm, tys)) (hty : tys[k]? = some ty) (hfl : decide (fl ≤ 2) = true) (hfit : px_fits ty v = true)
    (hR : px_Z T X P M (pc + len) lv st (hp.set a (.inr (ci, fs.set k v))) r hp') : px_Z T X P M pc lv (v :: .ref a :: st) hp r hp' :=
  px_Z_its 1 (fun call N0 nc ns => by simp only [px_its, px_step, hf, px_alu, hj, hx, hT, Nat.beq_refl, hty, decide_eq_true hk, hfl, hfit]) hR
theorem nm_u16 (v : Int32) : 0 ≤ (nm_us v (Int8.ofInt 16).toInt32).toInt ∧ (nm_us v (Int8.ofInt 16).toInt32).toInt ≤ 65535 := by
  unfold nm_us
  rw [show ((Int8.ofInt 16).toInt32.toUInt32 &&& Int32.toUInt32 31) = 16 from by decide]
  have h : (v.toUInt32 >>> (16 : UInt32)).toNat < 65536 := by
    rw [UInt32.toNat_shiftRight, show (16 : UInt32).toNat % 32 = 16 from by decide, Nat.shiftRight_eq_div_pow]
    have := v.toUInt32.toNat_lt
    omega
  have e : (v.toUInt32 >>> (16 : UInt32)).toInt32.toInt = ((v.toUInt32 >>> (16 : UInt32)).toNat : Int) := by
    generalize v.toUInt32 >>> (16 : UInt32) = u at h ⊢
    show u.toBitVec.toInt = _
    rw [BitVec.toInt_eq_toNat_cond]
    have e2 : u.toBitVec.toNat = u.toNat := rfl
    rw [e2, if_pos (by omega)]
  omega
theorem nm_rem (u n : Int32) (h0 : 0 ≤ u.toInt) (h1 : u.toInt ≤ 65535) (n0 : 1 ≤ n.toInt) (n1 : n.toInt ≤ 10) : 0 ≤ (u - u / n * n).toInt ∧ (u - u / n * n).toInt < n.toInt := by
  have e1 : (u / n).toInt = u.toInt / n.toInt := by
    rw [Int32.toInt_div, Int.tdiv_eq_ediv_of_nonneg h0]
    have a1 : 0 ≤ u.toInt / n.toInt := Int.ediv_nonneg h0 (by omega)
    have a2 : u.toInt / n.toInt ≤ u.toInt := Int.ediv_le_self _ h0
    apply Int.bmod_eq_of_le <;> omega
  have a3 := Int.ediv_mul_le u.toInt (show n.toInt ≠ 0 by omega)
  have a4 := Int.lt_ediv_add_one_mul_self u.toInt (show 0 < n.toInt by omega)
  have a5 : 0 ≤ u.toInt / n.toInt * n.toInt := Int.mul_nonneg (Int.ediv_nonneg h0 (by omega)) (by omega)
  have e2 : (u / n * n).toInt = u.toInt / n.toInt * n.toInt := by
    rw [Int32.toInt_mul, e1]
    apply Int.bmod_eq_of_le <;> omega
  have e3 : (u - u / n * n).toInt = u.toInt - u.toInt / n.toInt * n.toInt := by
    rw [Int32.toInt_sub, e2]
    apply Int.bmod_eq_of_le <;> omega
  rw [Int.add_mul] at a4
  omega
theorem nm_draws_C {hp : px_H} {fs : List Value} (hG : ab_h nm_GH hp) (hx : hp[69]? = some (.inr (9, fs))) (n : Int32) (n0 : 1 ≤ n.toInt) (n1 : n.toInt ≤ 10) : ∃ q x : Int32, px_C nm_T nm_P mi_M_draws [.ref 69, .int n] hp (some (.int q)) (hp.set 69 (.inr (9, fs.set nf_random (.int x)))) ∧ 0 ≤ q.toInt ∧ q.toInt < n.toInt := by
  obtain ⟨vs, hx', hlen, hfv⟩ := ac_obj hG (c := 69) rfl
  rw [hx] at hx'
  cases hx'
  have hk : nf_random < fs.length := by
    rw [← hlen]
    exact Nat.le_of_ble_eq_true rfl
  obtain ⟨x, hxr⟩ : ∃ x : Int32, fs[nf_random]? = some (.int x) := by
    obtain ⟨v, hv⟩ : ∃ v, fs[nf_random]? = some v := ⟨_, List.getElem?_eq_getElem hk⟩
    obtain ⟨x, rfl, -⟩ := ab_f0 (hfv nf_random _ v rfl hv)
    exact ⟨x, hv⟩
  have hne : n ≠ 0 := fun h => by rw [h] at n0; simp at n0
  generalize hy : x * Int32.ofInt 1103515245 + (Int16.ofInt 12345).toInt32 = y
  have hb := nm_u16 y
  generalize hu : nm_us y (Int8.ofInt 16).toInt32 = u at hb
  refine ⟨u - u / n * n, y, ?_, nm_rem u n hb.1 hb.2 n0 n1⟩
  have hl69 : 69 < hp.length := (List.getElem?_eq_some_iff.mp hx).1
  refine px_C_of (N := mm_M_draws) rfl (Nat.le_of_ble_eq_true rfl) ?_
  refine px_Z_its (pc1 := 2) (lv1 := [(0, .ref 69), (1, .int n)]) (st1 := [.ref 69, .ref 69]) (hp1 := hp) 2 (fun _ _ _ _ => rfl) ?_
  refine px_q_get (len := 3) (ci := 9) (k := nf_random) (fs := fs) (v := .int x) rfl rfl hx hxr ?_
  refine px_Z_its (pc1 := 12) (lv1 := [(0, .ref 69), (1, .int n)]) (st1 := [.int y, .ref 69]) (hp1 := hp) 4 (fun _ _ _ _ => by rw [← hy]; rfl) ?_
  refine px_q_putf (len := 3) (ci := 9) (k := nf_random) (fs := fs) rfl rfl hx hk rfl rfl rfl rfl ?_
  refine px_Z_its (pc1 := 16) (lv1 := [(0, .ref 69), (1, .int n)]) (st1 := [.ref 69]) (hp1 := hp.set 69 (.inr (9, fs.set nf_random (.int y)))) 1 (fun _ _ _ _ => rfl) ?_
  refine px_q_get (len := 3) (ci := 9) (k := nf_random) (fs := fs.set nf_random (.int y)) (v := .int y) rfl rfl (List.getElem?_set_self hl69) (List.getElem?_set_self hk) ?_
  refine px_Z_its (pc1 := 23) (lv1 := [(0, .ref 69), (1, .int n)]) (st1 := [.int n, .int u]) (hp1 := hp.set 69 (.inr (9, fs.set nf_random (.int y)))) 3 (fun _ _ _ _ => by rw [← hu]; rfl) ?_
  refine px_Z_its (pc1 := 24) (lv1 := [(0, .ref 69), (1, .int n)]) (st1 := [.int (u - u / n * n)]) (hp1 := hp.set 69 (.inr (9, fs.set nf_random (.int y)))) 1 (fun _ _ _ _ => ?_) ?_
  · have f : px_find 23 (px_cd mm_M_draws) = some (1, .irem) := rfl
    simp only [px_its, px_step, f, px_alu, px_iiz, if_neg hne]
  exact px_q_iret (len := 1) (ty := .int) rfl rfl rfl
/-- the bit that has asks for -/
def nm_hb (x j : Int32) : Int32 := (x >>> (j &&& 31)) &&& 1
theorem nm_has_C (x j : Int32) (hp : px_H) : px_C nm_T nm_P mi_M_has [.int x, .int j] hp (some (.int (if nm_hb x j = 1 then 1 else 0))) hp := by
  refine px_C_of (N := mm_M_has) rfl (Nat.le_of_ble_eq_true rfl) ?_
  refine px_Z_its (pc1 := 6) (lv1 := [(0, .int x), (1, .int j)]) (st1 := [.int 1, .int (nm_hb x j)]) (hp1 := hp) 6 (fun _ _ _ _ => rfl) ?_
  by_cases h : nm_hb x j = 1
  · rw [if_pos h]
    refine px_q_icmp (bb := false) (len := 3) (c := .ne) (off := 7) rfl (by simp [px_cmp, h]) ?_
    refine px_Z_its (pc1 := 14) (lv1 := [(0, .int x), (1, .int j)]) (st1 := [.int 1]) (hp1 := hp) 2 (fun _ _ _ _ => rfl) ?_
    exact px_q_iret (len := 1) (ty := .boolean) rfl rfl rfl
  · rw [if_neg h]
    refine px_q_icmp (bb := true) (len := 3) (c := .ne) (off := 7) rfl (by simp [px_cmp, h]) ?_
    refine px_Z_its (pc1 := 14) (lv1 := [(0, .int x), (1, .int j)]) (st1 := [.int 0]) (hp1 := hp) 1 (fun _ _ _ _ => rfl) ?_
    exact px_q_iret (len := 1) (ty := .boolean) rfl rfl rfl
/-- what nth answers, d places before the end -/
def nm_nf (x : Int32) : Nat → Int32 → Int32
  | 0, _ => -1
  | d + 1, k => if nm_hb x (Int32.ofNat (9 - d)) = 1 then (if k = 0 then Int32.ofNat (9 - d) else nm_nf x d (k + Int32.ofInt (-1))) else nm_nf x d k
theorem nm_nth_Z (x q : Int32) (hp : px_H) : ∀ (d : Nat) (k : Int32) (lv : List (Nat × Value)), d ≤ 10 → px_find 0 lv = some (.int x) → px_find 2 lv = some (.int k) → px_find 3 lv = some (.int (Int32.ofNat (10 - d))) → px_Z nm_T none nm_P mm_M_nth 4 lv [] hp (some (.int (nm_nf x d k))) hp := by
  intro d
  induction d with
  | zero =>
    intro k lv hd h0 h2 h3
    refine px_Z_its (pc1 := 7) (lv1 := lv) (st1 := [.int (Int8.ofInt 10).toInt32, .int (Int32.ofNat 10)]) (hp1 := hp) 2 (fun _ _ _ _ => ?_) ?_
    · have f4 : px_find 4 (px_cd mm_M_nth) = some (1, .iload_n 3) := rfl
      have f5 : px_find (4 + 1) (px_cd mm_M_nth) = some (2, .bipush 10) := rfl
      simp only [px_its, px_step, f4, px_alu, show px_find ((3 : Fin 4) : Nat) lv = some (.int (Int32.ofNat (10 - 0))) from h3, f5]
    refine px_q_icmp (bb := true) (len := 3) (c := .ge) (off := 26) rfl (by decide) ?_
    refine px_Z_its (pc1 := 34) (lv1 := lv) (st1 := [.int (-1)]) (hp1 := hp) 1 (fun _ _ _ _ => rfl) ?_
    exact px_q_iret (len := 1) (ty := .int) rfl rfl rfl
  | succ d ih =>
    intro k lv hd h0 h2 h3
    have e9 : 10 - (d + 1) = 9 - d := by omega
    rw [e9] at h3
    have hj := nm_ofNat_toInt (9 - d) (by omega)
    refine px_Z_its (pc1 := 7) (lv1 := lv) (st1 := [.int (Int8.ofInt 10).toInt32, .int (Int32.ofNat (9 - d))]) (hp1 := hp) 2 (fun _ _ _ _ => ?_) ?_
    · have f4 : px_find 4 (px_cd mm_M_nth) = some (1, .iload_n 3) := rfl
      have f5 : px_find (4 + 1) (px_cd mm_M_nth) = some (2, .bipush 10) := rfl
      simp only [px_its, px_step, f4, px_alu, show px_find ((3 : Fin 4) : Nat) lv = some (.int (Int32.ofNat (9 - d))) from h3, f5]
    refine px_q_icmp (bb := false) (len := 3) (c := .ge) (off := 26) rfl ?_ ?_
    · simp only [px_cmp, decide_eq_false_iff_not, ge_iff_le, Int32.le_iff_toInt_le, hj, show (Int8.ofInt 10).toInt32.toInt = 10 from by decide]
      omega
    refine px_Z_its (pc1 := 12) (lv1 := lv) (st1 := [.int (Int32.ofNat (9 - d)), .int x]) (hp1 := hp) 2 (fun _ _ _ _ => ?_) ?_
    · have f4 : px_find (7 + 3) (px_cd mm_M_nth) = some (1, .iload_n 0) := rfl
      have f5 : px_find (7 + 3 + 1) (px_cd mm_M_nth) = some (1, .iload_n 3) := rfl
      simp only [px_its, px_step, f4, px_alu, cond_false, show px_find ((0 : Fin 4) : Nat) lv = some (.int x) from h0, show px_find ((3 : Fin 4) : Nat) lv = some (.int (Int32.ofNat (9 - d))) from h3, f5]
    refine px_q_stat (len := 3) (n := 2) (N := mm_M_has) (mi := mi_M_has) rfl rfl rfl (Nat.le_of_ble_eq_true rfl) (Nat.le_of_ble_eq_true rfl) rfl rfl (nm_has_C x (Int32.ofNat (9 - d)) hp) ?_
    have inc : ∀ (k' : Int32) (lv' : List (Nat × Value)), px_find 0 lv' = some (.int x) → px_find 2 lv' = some (.int k') → px_find 3 lv' = some (.int (Int32.ofNat (9 - d))) → px_Z nm_T none nm_P mm_M_nth 27 lv' [] hp (some (.int (nm_nf x d k'))) hp := by
      intro k' lv' a0 a2 a3
      refine px_Z_its (pc1 := 4) (lv1 := px_st1 lv' 3 (.int (Int32.ofNat (10 - d)))) (st1 := []) (hp1 := hp) 2 (fun _ _ _ _ => ?_) (ih k' _ (by omega) (ab_sto1_find a0 (by decide) (fun _ hc => by cases hc)) (ab_sto1_find a2 (by decide) (fun _ hc => by cases hc)) ?_)
      · have f4 : px_find 27 (px_cd mm_M_nth) = some (3, .iinc 3 1) := rfl
        have f5 : px_find (27 + 3) (px_cd mm_M_nth) = some (3, .goto (-26)) := rfl
        have e1 : Int32.ofNat (9 - d) + Int32.ofInt 1 = Int32.ofNat (10 - d) := by
          rw [show 10 - d = 9 - d + 1 by omega, Int32.ofNat_add]
          rfl
        have hm : decide (3 < px_ml mm_M_nth) = true := rfl
        simp only [px_its, px_step, f4, px_alu, a3, hm, f5, e1]
        rfl
      · unfold px_st1 px_find
        rw [Nat.beq_refl]
    by_cases hb : nm_hb x (Int32.ofNat (9 - d)) = 1
    · rw [if_pos hb]
      refine px_q_if (bb := false) (len := 3) (c := .eq) (off := 12) rfl (by decide) ?_
      refine px_Z_its (pc1 := 19) (lv1 := lv) (st1 := [.int k]) (hp1 := hp) 1 (fun _ _ _ _ => ?_) ?_
      · have f4 : px_find 18 (px_cd mm_M_nth) = some (1, .iload_n 2) := rfl
        show px_its nm_T none nm_P _ mm_M_nth _ 1 (18, lv, [], hp, _, _) = _
        simp only [px_its, px_step, f4, px_alu, show px_find ((2 : Fin 4) : Nat) lv = some (.int k) from h2]
      by_cases hk : k = 0
      · have e : nm_nf x (d + 1) k = Int32.ofNat (9 - d) := by unfold nm_nf; rw [if_pos hb, if_pos hk]
        rw [e]
        refine px_q_if (bb := false) (len := 3) (c := .ne) (off := 5) rfl (by simp [px_cmp, hk]) ?_
        refine px_Z_its (pc1 := 23) (lv1 := lv) (st1 := [.int (Int32.ofNat (9 - d))]) (hp1 := hp) 1 (fun _ _ _ _ => ?_) ?_
        · have f4 : px_find 22 (px_cd mm_M_nth) = some (1, .iload_n 3) := rfl
          show px_its nm_T none nm_P _ mm_M_nth _ 1 (22, lv, [], hp, _, _) = _
          simp only [px_its, px_step, f4, px_alu, show px_find ((3 : Fin 4) : Nat) lv = some (.int (Int32.ofNat (9 - d))) from h3]
        exact px_q_iret (len := 1) (ty := .int) rfl rfl rfl
      · have e : nm_nf x (d + 1) k = nm_nf x d (k + Int32.ofInt (-1)) := by
          conv => lhs; unfold nm_nf
          rw [if_pos hb, if_neg hk]
        rw [e]
        refine px_q_if (bb := true) (len := 3) (c := .ne) (off := 5) rfl (by simp [px_cmp, hk]) ?_
        refine px_Z_its (pc1 := 27) (lv1 := px_st1 lv 2 (.int (k + Int32.ofInt (-1)))) (st1 := []) (hp1 := hp) 1 (fun _ _ _ _ => ?_) (inc _ _ (ab_sto1_find h0 (by decide) (fun _ hc => by cases hc)) ?_ (ab_sto1_find h3 (by decide) (fun _ hc => by cases hc)))
        · have f4 : px_find 24 (px_cd mm_M_nth) = some (3, .iinc 2 (-1)) := rfl
          have hm : decide (2 < px_ml mm_M_nth) = true := rfl
          show px_its nm_T none nm_P _ mm_M_nth _ 1 (24, lv, [], hp, _, _) = _
          simp only [px_its, px_step, f4, px_alu, h2, hm]
        · unfold px_st1 px_find
          rw [Nat.beq_refl]
    · rw [if_neg hb]
      have e : nm_nf x (d + 1) k = nm_nf x d k := by
        conv => lhs; unfold nm_nf
        rw [if_neg hb]
      rw [e]
      refine px_q_if (bb := true) (len := 3) (c := .eq) (off := 12) rfl (by decide) ?_
      exact inc k lv h0 h2 h3
theorem nm_nth_C (x q : Int32) (hp : px_H) : px_C nm_T nm_P mi_M_nth [.int x, .int q] hp (some (.int (nm_nf x 10 q))) hp := by
  refine px_C_of (N := mm_M_nth) rfl (Nat.le_of_ble_eq_true rfl) ?_
  refine px_Z_its (pc1 := 4) (lv1 := [(3, .int 0), (2, .int q), (0, .int x), (1, .int q)]) (st1 := []) (hp1 := hp) 4 (fun _ _ _ _ => rfl) ?_
  exact nm_nth_Z x q hp 10 q _ (Nat.le_refl _) rfl rfl rfl
set_option maxRecDepth 1000000 in
theorem nm_nf_tab : (List.range 1024).all (fun n => (List.range 10).all (fun k => decide ((nm_bc (Int32.ofNat n)).toInt ≤ k) || (decide (0 ≤ (nm_nf (Int32.ofNat n) 10 (Int32.ofNat k)).toInt) && (decide ((nm_nf (Int32.ofNat n) 10 (Int32.ofNat k)).toInt ≤ 9) && decide (nm_hb (Int32.ofNat n) (nm_nf (Int32.ofNat n) 10 (Int32.ofNat k)) = 1))))) = true := by decide +kernel
