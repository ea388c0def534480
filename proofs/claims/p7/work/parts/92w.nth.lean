section mg_0
/-! run: draws and nth -/
theorem px_q_putf {T : px_T} {X : Option (Nat × (Nat → Int32))} {P : List px_M} {M : px_M} {pc len idx ci k a : Nat} {fl : Int} {lv : List (Nat × Value)} {st : List Value} {hp hp' : px_H} {r : Option Value} {fs : List Value} {v : Value} {nm : Nat} {tys : List FieldType} {ty : FieldType} (hf : px_find pc (px_cd M) = some (len, .putfield idx)) (hj : px_find idx (px_cp M) = some (0, ci, k, fl)) (hx : hp[a]? = some (.inr (ci, fs))) (hk : k < fs.length) (hT : T.2[ci]? = some (nm, tys)) (hty : tys[k]? = some ty) (hfl : decide (fl ≤ 2) = true) (hfit : px_fits ty v = true)
    (hR : px_Z T X P M (pc + len) lv st (hp.set a (.inr (ci, fs.set k v))) r hp') : px_Z T X P M pc lv (v :: .ref a :: st) hp r hp' :=
  px_Z_its 1 (fun call N0 nc ns => by simp only [px_its, px_step, hf, px_alu, hj, hx, hT, Nat.beq_refl, hty, decide_eq_true hk, hfl, hfit]) hR
theorem nm_u16 (v : Int32) : 0 ≤ (nm_us v (Int8.ofInt 16).toInt32).toInt ∧ (nm_us v (Int8.ofInt 16).toInt32).toInt ≤ 65535 := by
  unfold nm_us
  rw [show ((Int8.ofInt 16).toInt32.toUInt32 &&& Int32.toUInt32 31) = 16 from by decide]
  have h : (v.toUInt32 >>> (16 : UInt32)).toNat < 65536 := by
    rw [UInt32.toNat_shiftRight, show (16 : UInt32).toNat % 32 = 16 from by decide, Nat.shiftRight_eq_div_pow]
    have := v.toUInt32.toNat_lt
    omega
  have e : (v.toUInt32 >>> (16 : UInt32)).toInt32.toInt = ((v.toUInt32 >>> (16 : UInt32)).toNat : Int) := by
    generalize v.toUInt32 >>> (16 : UInt32) = u at h ⊢
    show u.toBitVec.toInt = _
    rw [BitVec.toInt_eq_toNat_cond]
    have e2 : u.toBitVec.toNat = u.toNat := rfl
    rw [e2, if_pos (by omega)]
  omega
theorem nm_rem (u n : Int32) (h0 : 0 ≤ u.toInt) (h1 : u.toInt ≤ 65535) (n0 : 1 ≤ n.toInt) (n1 : n.toInt ≤ 10) : 0 ≤ (u - u / n * n).toInt ∧ (u - u / n * n).toInt < n.toInt := by
  have e1 : (u / n).toInt = u.toInt / n.toInt := by
    rw [Int32.toInt_div, Int.tdiv_eq_ediv_of_nonneg h0]
    have a1 : 0 ≤ u.toInt / n.toInt := Int.ediv_nonneg h0 (by omega)
    have a2 : u.toInt / n.toInt ≤ u.toInt := Int.ediv_le_self _ h0
    apply Int.bmod_eq_of_le <;> omega
  have a3 := Int.ediv_mul_le u.toInt (show n.toInt ≠ 0 by omega)
  have a4 := Int.lt_ediv_add_one_mul_self u.toInt (show 0 < n.toInt by omega)
  have a5 : 0 ≤ u.toInt / n.toInt * n.toInt := Int.mul_nonneg (Int.ediv_nonneg h0 (by omega)) (by omega)
  have e2 : (u / n * n).toInt = u.toInt / n.toInt * n.toInt := by
    rw [Int32.toInt_mul, e1]
    apply Int.bmod_eq_of_le <;> omega
  have e3 : (u - u / n * n).toInt = u.toInt - u.toInt / n.toInt * n.toInt := by
    rw [Int32.toInt_sub, e2]
    apply Int.bmod_eq_of_le <;> omega
  rw [Int.add_mul] at a4
  omega
theorem nm_draws_C {hp : px_H} {fs : List Value} (hG : ab_h nm_GH hp) (hx : hp[69]? = some (.inr (9, fs))) (n : Int32) (n0 : 1 ≤ n.toInt) (n1 : n.toInt ≤ 10) : ∃ q x : Int32, px_C nm_T nm_P mi_M_draws [.ref 69, .int n] hp (some (.int q)) (hp.set 69 (.inr (9, fs.set nf_random (.int x)))) ∧ 0 ≤ q.toInt ∧ q.toInt < n.toInt := by
  obtain ⟨vs, hx', hlen, hfv⟩ := ac_obj hG (c := 69) rfl
  rw [hx] at hx'
  cases hx'
  have hk : nf_random < fs.length := by
    rw [← hlen]
    exact Nat.le_of_ble_eq_true rfl
  obtain ⟨x, hxr⟩ : ∃ x : Int32, fs[nf_random]? = some (.int x) := by
    obtain ⟨v, hv⟩ : ∃ v, fs[nf_random]? = some v := ⟨_, List.getElem?_eq_getElem hk⟩
    obtain ⟨x, rfl, -⟩ := ab_f0 (hfv nf_random _ v rfl hv)
    exact ⟨x, hv⟩
  have hne : n ≠ 0 := fun h => by rw [h] at n0; simp at n0
  generalize hy : x * Int32.ofInt 1103515245 + (Int16.ofInt 12345).toInt32 = y
  have hb := nm_u16 y
  generalize hu : nm_us y (Int8.ofInt 16).toInt32 = u at hb
  refine ⟨u - u / n * n, y, ?_, nm_rem u n hb.1 hb.2 n0 n1⟩
  have hl69 : 69 < hp.length := (List.getElem?_eq_some_iff.mp hx).1
  refine px_C_of (N := mm_M_draws) rfl (Nat.le_of_ble_eq_true rfl) ?_
  refine px_Z_its (pc1 := 2) (lv1 := [(0, .ref 69), (1, .int n)]) (st1 := [.ref 69, .ref 69]) (hp1 := hp) 2 (fun _ _ _ _ => rfl) ?_
  refine px_q_get (len := 3) (ci := 9) (k := nf_random) (fs := fs) (v := .int x) rfl rfl hx hxr ?_
  refine px_Z_its (pc1 := 12) (lv1 := [(0, .ref 69), (1, .int n)]) (st1 := [.int y, .ref 69]) (hp1 := hp) 4 (fun _ _ _ _ => by rw [← hy]; rfl) ?_
  refine px_q_putf (len := 3) (ci := 9) (k := nf_random) (fs := fs) rfl rfl hx hk rfl rfl rfl rfl ?_
  refine px_Z_its (pc1 := 16) (lv1 := [(0, .ref 69), (1, .int n)]) (st1 := [.ref 69]) (hp1 := hp.set 69 (.inr (9, fs.set nf_random (.int y)))) 1 (fun _ _ _ _ => rfl) ?_
  refine px_q_get (len := 3) (ci := 9) (k := nf_random) (fs := fs.set nf_random (.int y)) (v := .int y) rfl rfl (List.getElem?_set_self hl69) (List.getElem?_set_self hk) ?_
  refine px_Z_its (pc1 := 23) (lv1 := [(0, .ref 69), (1, .int n)]) (st1 := [.int n, .int u]) (hp1 := hp.set 69 (.inr (9, fs.set nf_random (.int y)))) 3 (fun _ _ _ _ => by rw [← hu]; rfl) ?_
  refine px_Z_its (pc1 := 24) (lv1 := [(0, .ref 69), (1, .int n)]) (st1 := [.int (u - u / n * n)]) (hp1 := hp.set 69 (.inr (9, fs.set nf_random (.int y)))) 1 (fun _ _ _ _ => ?_) ?_
  · have f : px_find 23 (px_cd mm_M_draws) = some (1, .irem) := rfl
    simp only [px_its, px_step, f, px_alu, px_iiz, if_neg hne]
  exact px_q_iret (len := 1) (ty := .int) rfl rfl rfl
/-- the bit that has asks for -/
def nm_hb (x j : Int32) : Int32 := (x >>> (j &&& 31)) &&& 1
theorem nm_has_C (x j : Int32) (hp : px_H) : px_C nm_T nm_P mi_M_has [.int x, .int j] hp (some (.int (if nm_hb x j = 1 then 1 else 0))) hp := by
  refine px_C_of (N := mm_M_has) rfl (Nat.le_of_ble_eq_true rfl) ?_
  refine px_Z_its (pc1 := 6) (lv1 := [(0, .int x), (1, .int j)]) (st1 := [.int 1, .int (nm_hb x j)]) (hp1 := hp) 6 (fun _ _ _ _ => rfl) ?_
  by_cases h : nm_hb x j = 1
  · rw [if_pos h]
    refine px_q_icmp (bb := false) (len := 3) (c := .ne) (off := 7) rfl (by simp [px_cmp, h]) ?_
    refine px_Z_its (pc1 := 14) (lv1 := [(0, .int x), (1, .int j)]) (st1 := [.int 1]) (hp1 := hp) 2 (fun _ _ _ _ => rfl) ?_
    exact px_q_iret (len := 1) (ty := .boolean) rfl rfl rfl
  · rw [if_neg h]
    refine px_q_icmp (bb := true) (len := 3) (c := .ne) (off := 7) rfl (by simp [px_cmp, h]) ?_
    refine px_Z_its (pc1 := 14) (lv1 := [(0, .int x), (1, .int j)]) (st1 := [.int 0]) (hp1 := hp) 1 (fun _ _ _ _ => rfl) ?_
    exact px_q_iret (len := 1) (ty := .boolean) rfl rfl rfl
/-- what nth answers, d places before the end -/
def nm_nf (x : Int32) : Nat → Int32 → Int32
  | 0, _ => -1
  | d + 1, k => if nm_hb x (Int32.ofNat (9 - d)) = 1 then (if k = 0 then Int32.ofNat (9 - d) else nm_nf x d (k + Int32.ofInt (-1))) else nm_nf x d k
theorem nm_nth_Z (x q : Int32) (hp : px_H) : ∀ (d : Nat) (k : Int32) (lv : List (Nat × Value)), d ≤ 10 → px_find 0 lv = some (.int x) → px_find 2 lv = some (.int k) → px_find 3 lv = some (.int (Int32.ofNat (10 - d))) → px_Z nm_T none nm_P mm_M_nth 4 lv [] hp (some (.int (nm_nf x d k))) hp := by
  intro d
  induction d with
  | zero =>
    intro k lv hd h0 h2 h3
    refine px_Z_its (pc1 := 7) (lv1 := lv) (st1 := [.int (Int8.ofInt 10).toInt32, .int (Int32.ofNat 10)]) (hp1 := hp) 2 (fun _ _ _ _ => ?_) ?_
    · have f4 : px_find 4 (px_cd mm_M_nth) = some (1, .iload_n 3) := rfl
      have f5 : px_find (4 + 1) (px_cd mm_M_nth) = some (2, .bipush 10) := rfl
      simp only [px_its, px_step, f4, px_alu, show px_find ((3 : Fin 4) : Nat) lv = some (.int (Int32.ofNat (10 - 0))) from h3, f5]
    refine px_q_icmp (bb := true) (len := 3) (c := .ge) (off := 26) rfl (by decide) ?_
    refine px_Z_its (pc1 := 34) (lv1 := lv) (st1 := [.int (-1)]) (hp1 := hp) 1 (fun _ _ _ _ => rfl) ?_
    exact px_q_iret (len := 1) (ty := .int) rfl rfl rfl
  | succ d ih =>
    intro k lv hd h0 h2 h3
    have e9 : 10 - (d + 1) = 9 - d := by omega
    rw [e9] at h3
    have hj := nm_ofNat_toInt (9 - d) (by omega)
    refine px_Z_its (pc1 := 7) (lv1 := lv) (st1 := [.int (Int8.ofInt 10).toInt32, .int (Int32.ofNat (9 - d))]) (hp1 := hp) 2 (fun _ _ _ _ => ?_) ?_
    · have f4 : px_find 4 (px_cd mm_M_nth) = some (1, .iload_n 3) := rfl
      have f5 : px_find (4 + 1) (px_cd mm_M_nth) = some (2, .bipush 10) := rfl
      simp only [px_its, px_step, f4, px_alu, show px_find ((3 : Fin 4) : Nat) lv = some (.int (Int32.ofNat (9 - d))) from h3, f5]
    refine px_q_icmp (bb := false) (len := 3) (c := .ge) (off := 26) rfl ?_ ?_
    · simp only [px_cmp, decide_eq_false_iff_not, ge_iff_le, Int32.le_iff_toInt_le, hj, show (Int8.ofInt 10).toInt32.toInt = 10 from by decide]
      omega
    refine px_Z_its (pc1 := 12) (lv1 := lv) (st1 := [.int (Int32.ofNat (9 - d)), .int x]) (hp1 := hp) 2 (fun _ _ _ _ => ?_) ?_
    · have f4 : px_find (7 + 3) (px_cd mm_M_nth) = some (1, .iload_n 0) := rfl
      have f5 : px_find (7 + 3 + 1) (px_cd mm_M_nth) = some (1, .iload_n 3) := rfl
      simp only [px_its, px_step, f4, px_alu, cond_false, show px_find ((0 : Fin 4) : Nat) lv = some (.int x) from h0, show px_find ((3 : Fin 4) : Nat) lv = some (.int (Int32.ofNat (9 - d))) from h3, f5]
    refine px_q_stat (len := 3) (n := 2) (N := mm_M_has) (mi := mi_M_has) rfl rfl rfl (Nat.le_of_ble_eq_true rfl) (Nat.le_of_ble_eq_true rfl) rfl rfl (nm_has_C x (Int32.ofNat (9 - d)) hp) ?_
    have inc : ∀ (k' : Int32) (lv' : List (Nat × Value)), px_find 0 lv' = some (.int x) → px_find 2 lv' = some (.int k') → px_find 3 lv' = some (.int (Int32.ofNat (9 - d))) → px_Z nm_T none nm_P mm_M_nth 27 lv' [] hp (some (.int (nm_nf x d k'))) hp := by
      intro k' lv' a0 a2 a3
      refine px_Z_its (pc1 := 4) (lv1 := px_st1 lv' 3 (.int (Int32.ofNat (10 - d)))) (st1 := []) (hp1 := hp) 2 (fun _ _ _ _ => ?_) (ih k' _ (by omega) (ab_sto1_find a0 (by decide) (fun _ hc => by cases hc)) (ab_sto1_find a2 (by decide) (fun _ hc => by cases hc)) ?_)
      · have f4 : px_find 27 (px_cd mm_M_nth) = some (3, .iinc 3 1) := rfl
        have f5 : px_find (27 + 3) (px_cd mm_M_nth) = some (3, .goto (-26)) := rfl
        have e1 : Int32.ofNat (9 - d) + Int32.ofInt 1 = Int32.ofNat (10 - d) := by
          rw [show 10 - d = 9 - d + 1 by omega, Int32.ofNat_add]
          rfl
        have hm : decide (3 < px_ml mm_M_nth) = true := rfl
        simp only [px_its, px_step, f4, px_alu, a3, hm, f5, e1]
        rfl
      · unfold px_st1 px_find
        rw [Nat.beq_refl]
    by_cases hb : nm_hb x (Int32.ofNat (9 - d)) = 1
    · rw [if_pos hb]
      refine px_q_if (bb := false) (len := 3) (c := .eq) (off := 12) rfl (by decide) ?_
      refine px_Z_its (pc1 := 19) (lv1 := lv) (st1 := [.int k]) (hp1 := hp) 1 (fun _ _ _ _ => ?_) ?_
      · have f4 : px_find 18 (px_cd mm_M_nth) = some (1, .iload_n 2) := rfl
        show px_its nm_T none nm_P _ mm_M_nth _ 1 (18, lv, [], hp, _, _) = _
        simp only [px_its, px_step, f4, px_alu, show px_find ((2 : Fin 4) : Nat) lv = some (.int k) from h2]
      by_cases hk : k = 0
      · have e : nm_nf x (d + 1) k = Int32.ofNat (9 - d) := by unfold nm_nf; rw [if_pos hb, if_pos hk]
        rw [e]
        refine px_q_if (bb := false) (len := 3) (c := .ne) (off := 5) rfl (by simp [px_cmp, hk]) ?_
        refine px_Z_its (pc1 := 23) (lv1 := lv) (st1 := [.int (Int32.ofNat (9 - d))]) (hp1 := hp) 1 (fun _ _ _ _ => ?_) ?_
        · have f4 : px_find 22 (px_cd mm_M_nth) = some (1, .iload_n 3) := rfl
          show px_its nm_T none nm_P _ mm_M_nth _ 1 (22, lv, [], hp, _, _) = _
          simp only [px_its, px_step, f4, px_alu, show px_find ((3 : Fin 4) : Nat) lv = some (.int (Int32.ofNat (9 - d))) from h3]
        exact px_q_iret (len := 1) (ty := .int) rfl rfl rfl
      · have e : nm_nf x (d + 1) k = nm_nf x d (k + Int32.ofInt (-1)) := by
          conv => lhs; unfold nm_nf
          rw [if_pos hb, if_neg hk]
        rw [e]
        refine px_q_if (bb := true) (len := 3) (c := .ne) (off := 5) rfl (by simp [px_cmp, hk]) ?_
        refine px_Z_its (pc1 := 27) (lv1 := px_st1 lv 2 (.int (k + Int32.ofInt (-1)))) (st1 := []) (hp1 := hp) 1 (fun _ _ _ _ => ?_) (inc _ _ (ab_sto1_find h0 (by decide) (fun _ hc => by cases hc)) ?_ (ab_sto1_find h3 (by decide) (fun _ hc => by cases hc)))
        · have f4 : px_find 24 (px_cd mm_M_nth) = some (3, .iinc 2 (-1)) := rfl
          have hm : decide (2 < px_ml mm_M_nth) = true := rfl
          show px_its nm_T none nm_P _ mm_M_nth _ 1 (24, lv, [], hp, _, _) = _
          simp only [px_its, px_step, f4, px_alu, h2, hm]
        · unfold px_st1 px_find
          rw [Nat.beq_refl]
    · rw [if_neg hb]
      have e : nm_nf x (d + 1) k = nm_nf x d k := by
        conv => lhs; unfold nm_nf
        rw [if_neg hb]
      rw [e]
      refine px_q_if (bb := true) (len := 3) (c := .eq) (off := 12) rfl (by decide) ?_
      exact inc k lv h0 h2 h3
theorem nm_nth_C (x q : Int32) (hp : px_H) : px_C nm_T nm_P mi_M_nth [.int x, .int q] hp (some (.int (nm_nf x 10 q))) hp := by
  refine px_C_of (N := mm_M_nth) rfl (Nat.le_of_ble_eq_true rfl) ?_
  refine px_Z_its (pc1 := 4) (lv1 := [(3, .int 0), (2, .int q), (0, .int x), (1, .int q)]) (st1 := []) (hp1 := hp) 4 (fun _ _ _ _ => rfl) ?_
  exact nm_nth_Z x q hp 10 q _ (Nat.le_refl _) rfl rfl rfl
set_option maxRecDepth 1000000 in
theorem nm_nf_tab : (List.range 1024).all (fun n => (List.range 10).all (fun k => decide ((nm_bc (Int32.ofNat n)).toInt ≤ k) || (decide (0 ≤ (nm_nf (Int32.ofNat n) 10 (Int32.ofNat k)).toInt) && (decide ((nm_nf (Int32.ofNat n) 10 (Int32.ofNat k)).toInt ≤ 9) && decide (nm_hb (Int32.ofNat n) (nm_nf (Int32.ofNat n) 10 (Int32.ofNat k)) = 1))))) = true := by decide +kernel
end mg_0

section mg_1
/-! takes: what it does to the bag and to the sitting -/
def nm_bit (p : Int32) : Int32 := 1 <<< (p &&& 31)
def nm_out (w p : Int32) : Int32 := w &&& (nm_bit p ^^^ -1)
theorem px_C_fun {T : px_T} {P : List px_M} {mi : Nat} {av : List Value} {hp h1 h2 : px_H} {r1 r2 : Option Value} (a : px_C T P mi av hp r1 h1) (b : px_C T P mi av hp r2 h2) : r1 = r2 ∧ h1 = h2 := by
  obtain ⟨n1, a⟩ := a
  obtain ⟨n2, b⟩ := b
  have e1 := a (max n1 n2) (by omega)
  have e2 := b (max n1 n2) (by omega)
  rw [e1] at e2
  cases e2
  exact ⟨rfl, rfl⟩
theorem nm_fI {hp : px_H} {fs : List Value} (hG : ab_h nm_GH hp) (hx : hp[69]? = some (.inr (9, fs))) {k : Nat} {a b : Int} (h : ac_f1 nm_GH 9 k 69 = some (0, a, b, [])) : ∃ x : Int32, fs[k]? = some (.int x) ∧ a ≤ x.toInt ∧ x.toInt ≤ b := by
  obtain ⟨vs', v, e1, e2, e3, -⟩ := ac_f1_ok hG h
  rw [hx] at e1
  cases e1
  obtain ⟨x, rfl, hb⟩ := ab_f0 e3
  exact ⟨x, e2, hb.1, hb.2⟩
def tk_B : ac_S := ([(0, ((2, 0, 0, [69]), none)), (1, ((0, 0, 5, []), none)), (2, ((0, 0, 9, []), none)), (3, ((0, 0, 1, []), none)), (4, ((0, 0, 6, []), none))], [], [], [], [], [])
def tk_ck : Bool := match ac_run nm_T nm_P nm_GH nm_FA [] [] [(69, nf_putBy)] [na_aside] 20000 true [] mi_M_takes mm_M_takes 68 tk_B with
  | some o => o.1.all (fun q => match q.1 with | some a => decide (a.1 = (0, 0, 0, [])) | none => false) && o.2.isEmpty
  | none => false
set_option maxRecDepth 1000000 in
theorem tk_ck_t : tk_ck = true := by decide +kernel
theorem tk_68 {hp : px_H} {lv : List (Nat × Value)} {d p bo r4 : Int32} (hG : ab_h nm_GH hp) (h0 : px_find 0 lv = some (.ref 69)) (h1 : px_find 1 lv = some (.int d)) (h2 : px_find 2 lv = some (.int p)) (h3 : px_find 3 lv = some (.int bo)) (h4 : px_find 4 lv = some (.int r4)) (d0 : 0 ≤ d.toInt) (d5 : d.toInt ≤ 5) (p0 : 0 ≤ p.toInt) (p9 : p.toInt ≤ 9) (b0 : 0 ≤ bo.toInt) (b1 : bo.toInt ≤ 1) (r0 : 0 ≤ r4.toInt) (r6 : r4.toInt ≤ 6) :
    ∃ hp', px_Z nm_T none nm_P mm_M_takes 68 lv [] hp (some (.int 0)) hp' ∧ px_fr [(69, nf_putBy)] [na_aside] hp hp' := by
  have h := tk_ck_t
  unfold tk_ck at h
  split at h
  rotate_left
  · cases h
  rename_i o ho
  simp only [Bool.and_eq_true, List.all_eq_true] at h
  have hA : ac_s nm_GH nm_Φ (fun _ => 0) (fun _ => 0) tk_B lv [] hp := by
    refine ⟨fun j a hm => ?_, trivial, hG, fun q hq => (by cases hq), fun j q hq => (by simp [tk_B] at hq), fun i hi => (by cases hi), fun q hq => (by cases hq)⟩
    simp only [tk_B, List.mem_cons, Prod.mk.injEq, List.not_mem_nil, or_false] at hm
    rcases hm with ⟨rfl, rfl⟩ | ⟨rfl, rfl⟩ | ⟨rfl, rfl⟩ | ⟨rfl, rfl⟩ | ⟨rfl, rfl⟩
    · exact ⟨_, h0, ⟨rfl, List.mem_cons_self⟩, ab_o_none _ _ _ _⟩
    · exact ⟨_, h1, ⟨rfl, d0, d5⟩, ab_o_none _ _ _ _⟩
    · exact ⟨_, h2, ⟨rfl, p0, p9⟩, ab_o_none _ _ _ _⟩
    · exact ⟨_, h3, ⟨rfl, b0, b1⟩, ab_o_none _ _ _ _⟩
    · exact ⟨_, h4, ⟨rfl, r0, r6⟩, ab_o_none _ _ _ _⟩
  rcases ac_run_ok (xs := fun _ => 0) nm_Fl nm_FG (fun _ h => absurd h List.not_mem_nil) 20000 true [] mi_M_takes mm_M_takes 68 _ o none _ lv [] hp ho hA with ⟨r, hp', oc, m1, m2, m3, m4⟩ | ⟨pc', lv', st', hp', A', m1, -⟩
  · have hs := h.1 oc m1
    have g1 := m2.1
    cases hq : oc.1 with
    | none => rw [hq] at hs; cases hs
    | some a =>
      rw [hq] at hs g1
      have hs := of_decide_eq_true hs
      cases r with
      | none => exact absurd g1 (by simp)
      | some v =>
        have g2 : ab_f a.1 v := g1.1
        rw [hs] at g2
        obtain ⟨x, rfl, hx⟩ := ab_f0 g2
        have : x = 0 := by
          rw [← Int32.toInt_inj]
          have := hx.1
          have := hx.2
          simp only [Int32.toInt_zero] at *
          omega
        subst this
        exact ⟨hp', m4, m3⟩
  · have := h.2
    rw [List.isEmpty_iff] at this
    rw [this] at m1
    cases m1
theorem nm_takes {hp : px_H} {fs : List Value} (hG : ab_h nm_GH hp) (hx : hp[69]? = some (.inr (9, fs))) {gB gO : Nat → Int32} {sv d p bo : Int32} (hB : hp[na_inBag]? = some (.inl (nr_inBag, 2, .inl gB))) (hO : hp[na_bagOf]? = some (.inl (nr_bagOf, 6, .inl gO))) (hs : fs[nf_sitting]? = some (.int sv)) (d0 : 0 ≤ d.toInt) (d5 : d.toInt ≤ 5) (p0 : 0 ≤ p.toInt) (p9 : p.toInt ≤ 9) (hbo : gO d.toNatClampNeg = bo) (b0 : 0 ≤ bo.toInt) (b1 : bo.toInt ≤ 1) :
    ∃ (r : Int32) (hp' : px_H) (fs' : List Value), px_C nm_T nm_P mi_M_takes [.ref 69, .int d, .int p] hp (some (.int r)) hp' ∧ ab_h nm_GH hp' ∧ px_fr kc_M_takes_0.2.2.2.2.1 kc_M_takes_0.2.2.2.2.2 hp hp' ∧ (r = 0 ∨ r = 1) ∧ hp'[na_inBag]? = some (.inl (nr_inBag, 2, .inl (upd gB bo.toNatClampNeg (nm_out (gB bo.toNatClampNeg) p)))) ∧ hp'[69]? = some (.inr (9, fs')) ∧
      fs'[nf_sitting]? = some (.int (if r = 1 then sv ||| nm_bit p else sv)) := by
  obtain ⟨r9, hp9, o9, m1, m2, m3, m4, m5, -, m7⟩ := kp_M_takes_0 [.ref 69, .int d, .int p] hp hG ⟨⟨rfl, List.mem_cons_self⟩, ⟨rfl, d0, d5⟩, ⟨rfl, p0, p9⟩, trivial⟩ (fun i hi => by cases hi)
  suffices hh : ∃ (r : Int32) (hp' : px_H) (fs' : List Value), px_C nm_T nm_P mi_M_takes [.ref 69, .int d, .int p] hp (some (.int r)) hp' ∧ (r = 0 ∨ r = 1) ∧ hp'[na_inBag]? = some (.inl (nr_inBag, 2, .inl (upd gB bo.toNatClampNeg (nm_out (gB bo.toNatClampNeg) p)))) ∧ hp'[69]? = some (.inr (9, fs')) ∧
      fs'[nf_sitting]? = some (.int (if r = 1 then sv ||| nm_bit p else sv)) by
    obtain ⟨r, hp', fs', a1, a2, a3, a4, a5⟩ := hh
    obtain ⟨e1, e2⟩ := px_C_fun a1 m2
    subst e2
    exact ⟨r, hp', fs', a1, m3, m7, a2, a3, a4, a5⟩
  have iO : px_inR d 6 = true := nm_ixR d 6 d0 (by omega)
  have iB : px_inR bo 2 = true := nm_ixR bo 2 b0 (by omega)
  have hl88 : na_inBag < hp.length := (List.getElem?_eq_some_iff.mp hB).1
  obtain ⟨gB', hB', bB⟩ := ac_arrI hG (c := na_inBag) (t := nr_inBag) (n := 2) (lo := 0) (hi := 1023) (Nat.le_of_ble_eq_true rfl) rfl
  rw [hB] at hB'
  cases hB'
  have hw := bB bo.toNatClampNeg (by unfold Int32.toNatClampNeg; omega)
  have ho := ab_and32 (gB bo.toNatClampNeg) (nm_bit p ^^^ -1) hw.1
  generalize hh1 : hp.set na_inBag (.inl (nr_inBag, 2, .inl (upd gB bo.toNatClampNeg (nm_out (gB bo.toNatClampNeg) p)))) = hp1
  have hG1 : ab_h nm_GH hp1 := by
    rw [← hh1]
    refine ac_h_arr hG hB rfl ⟨rfl, rfl, fun j hj => ?_⟩
    refine ⟨rfl, ?_⟩
    simp only [upd]
    split
    · exact ⟨ho.1, Int.le_trans ho.2 hw.2⟩
    · exact bB j hj
  have hx1 : hp1[69]? = some (.inr (9, fs)) := by rw [← hh1, List.getElem?_set_ne (by decide)]; exact hx
  have hB1 : hp1[na_inBag]? = some (.inl (nr_inBag, 2, .inl (upd gB bo.toNatClampNeg (nm_out (gB bo.toNatClampNeg) p)))) := by rw [← hh1]; exact List.getElem?_set_self hl88
  generalize hlv : ([(3, .int bo), (0, .ref 69), (1, .int d), (2, .int p)] : List (Nat × Value)) = lv
  have k0 : px_find 0 lv = some (.ref 69) := by rw [← hlv]; rfl
  have k1 : px_find 1 lv = some (.int d) := by rw [← hlv]; rfl
  have k2 : px_find 2 lv = some (.int p) := by rw [← hlv]; rfl
  have k3 : px_find 3 lv = some (.int bo) := by rw [← hlv]; rfl
  have head : ∀ (r : Int32) (hp' : px_H), px_Z nm_T none nm_P mm_M_takes 21 lv [] hp1 (some (.int r)) hp' → px_C nm_T nm_P mi_M_takes [.ref 69, .int d, .int p] hp (some (.int r)) hp' := by
    intro r hp' h
    subst hlv
    refine px_C_of (N := mm_M_takes) rfl (Nat.le_of_ble_eq_true rfl) ?_
    refine px_Z_its (pc1 := 1) (lv1 := [(0, .ref 69), (1, .int d), (2, .int p)]) (st1 := [.ref 69]) (hp1 := hp) 1 (fun _ _ _ _ => rfl) ?_
    refine px_q_get (len := 3) (ci := 9) (k := nf_bagOf) (fs := fs) (v := .ref na_bagOf) rfl rfl hx (nm_f hG hx rfl) ?_
    refine px_Z_its (pc1 := 5) (lv1 := [(0, .ref 69), (1, .int d), (2, .int p)]) (st1 := [.int d, .ref na_bagOf]) (hp1 := hp) 1 (fun _ _ _ _ => rfl) ?_
    refine px_q_iald (len := 1) rfl hO rfl iO ?_
    rw [hbo]
    refine px_Z_its (pc1 := 8) (lv1 := [(3, .int bo), (0, .ref 69), (1, .int d), (2, .int p)]) (st1 := [.ref 69]) (hp1 := hp) 2 (fun _ _ _ _ => rfl) ?_
    refine px_q_get (len := 3) (ci := 9) (k := nf_inBag) (fs := fs) (v := .ref na_inBag) rfl rfl hx (nm_f hG hx rfl) ?_
    refine px_Z_its (pc1 := 13) (lv1 := [(3, .int bo), (0, .ref 69), (1, .int d), (2, .int p)]) (st1 := [.int bo, .ref na_inBag, .int bo, .ref na_inBag]) (hp1 := hp) 2 (fun _ _ _ _ => rfl) ?_
    refine px_q_iald (len := 1) rfl hB rfl iB ?_
    refine px_Z_its (pc1 := 20) (lv1 := [(3, .int bo), (0, .ref 69), (1, .int d), (2, .int p)]) (st1 := [.int (nm_out (gB bo.toNatClampNeg) p), .int bo, .ref na_inBag]) (hp1 := hp) 6 (fun _ _ _ _ => rfl) ?_
    refine px_q_iast (len := 1) rfl hB rfl iB ?_
    rw [hh1]
    exact h
  obtain ⟨r1, hq, o1, c1, c2, c3, c4, -, -, c7⟩ := kp_M_isDead_0 [.ref 69, .int p, .int d] hp1 hG1 ⟨⟨rfl, List.mem_cons_self⟩, ⟨rfl, p0, p9⟩, ⟨rfl, d0, d5⟩, trivial⟩ (fun i hi => by cases hi)
  rw [px_fr_nil hG1 c3 c7] at c2
  obtain ⟨v1, rfl⟩ : ∃ v : Int32, r1 = some (.int v) := by
    cases List.mem_singleton.mp c1
    cases r1 with
    | none => exact absurd c4 (by simp [ac_rv])
    | some v => obtain ⟨x, rfl, -⟩ := ab_f0 c4; exact ⟨x, rfl⟩
  have dead : ∀ (r : Int32) (hp' : px_H), px_Z nm_T none nm_P mm_M_takes 27 lv [.int v1] hp1 (some (.int r)) hp' → px_Z nm_T none nm_P mm_M_takes 21 lv [] hp1 (some (.int r)) hp' := by
    intro r hp' h
    refine px_Z_its (pc1 := 24) (lv1 := lv) (st1 := [.int d, .int p, .ref 69]) (hp1 := hp1) 3 (fun _ _ _ _ => by subst hlv; rfl) ?_
    exact px_q_virt (len := 3) (n := 2) (a := 69) (N := mm_M_isDead) (mi := mi_M_isDead) (ci := 9) rfl rfl rfl hx1 rfl (Nat.le_of_ble_eq_true rfl) (Nat.le_of_ble_eq_true rfl) rfl rfl c2 h
  by_cases hv : v1 = 0
  · obtain ⟨r2, hq, o2, f1, f2, f3, f4, -, -, f7⟩ := kp_M_barredBy_0 [.ref 69, .int p, .int d] hp1 hG1 ⟨⟨rfl, List.mem_cons_self⟩, ⟨rfl, p0, p9⟩, ⟨rfl, d0, d5⟩, trivial⟩ (fun i hi => by cases hi)
    rw [px_fr_nil hG1 f3 f7] at f2
    obtain ⟨v4, rfl, v6⟩ : ∃ v : Int32, r2 = some (.int v) ∧ v.toInt ≤ 6 := by
      cases List.mem_singleton.mp f1
      cases r2 with
      | none => exact absurd f4 (by simp [ac_rv])
      | some v => obtain ⟨x, rfl, hx⟩ := ab_f0 f4; exact ⟨x, rfl, hx.2⟩
    have bar : ∀ (r : Int32) (hp' : px_H), px_Z nm_T none nm_P mm_M_takes 42 ((4, .int v4) :: lv) [.int v4] hp1 (some (.int r)) hp' → px_C nm_T nm_P mi_M_takes [.ref 69, .int d, .int p] hp (some (.int r)) hp' := by
      intro r hp' h
      refine head r hp' (dead r hp' ?_)
      refine px_q_if (bb := true) (len := 3) (c := .eq) (off := 5) rfl (by simp [px_cmp, hv]) ?_
      refine px_Z_its (pc1 := 35) (lv1 := lv) (st1 := [.int d, .int p, .ref 69]) (hp1 := hp1) 3 (fun _ _ _ _ => by subst hlv; rfl) ?_
      refine px_q_virt (len := 3) (n := 2) (a := 69) (N := mm_M_barredBy) (mi := mi_M_barredBy) (ci := 9) rfl rfl rfl hx1 rfl (Nat.le_of_ble_eq_true rfl) (Nat.le_of_ble_eq_true rfl) rfl rfl f2 ?_
      exact px_Z_its (pc1 := 42) (lv1 := (4, .int v4) :: lv) (st1 := [.int v4]) (hp1 := hp1) 2 (fun _ _ _ _ => by subst hlv; rfl) h
    have k4 : px_find 4 ((4, .int v4) :: lv) = some (.int v4) := rfl
    have q0 : px_find 0 ((4, .int v4) :: lv) = some (.ref 69) := k0
    have q1 : px_find 1 ((4, .int v4) :: lv) = some (.int d) := k1
    have q2 : px_find 2 ((4, .int v4) :: lv) = some (.int p) := k2
    have q3 : px_find 3 ((4, .int v4) :: lv) = some (.int bo) := k3
    by_cases hr4 : 0 ≤ v4.toInt
    · obtain ⟨hp', z1, z2⟩ := tk_68 (p := p) hG1 q0 q1 q2 q3 k4 d0 d5 p0 p9 b0 b1 hr4 v6
      obtain ⟨fs', e1, e2, e3⟩ := z2.2 69 9 fs hx1
      refine ⟨0, hp', fs', bar 0 hp' ?_, Or.inl rfl, z2.1 na_inBag _ (by decide) hB1, e1, ?_⟩
      · refine px_q_if (bb := true) (len := 3) (c := .ge) (off := 26) rfl ?_ z1
        simp only [px_cmp, decide_eq_true_eq, ge_iff_le, Int32.le_iff_toInt_le, Int32.toInt_zero]
        exact hr4
      · rw [e3 nf_sitting (by decide), if_neg (by decide)]
        exact hs
    · obtain ⟨gL, hL0, -⟩ := ac_arrI hG1 (c := na_satLast) (t := nr_satLast) (n := 10) (lo := 0) (hi := 7) (Nat.le_of_ble_eq_true rfl) rfl
      have hks : nf_sitting < fs.length := (List.getElem?_eq_some_iff.mp hs).1
      have hl69 : 69 < hp1.length := (List.getElem?_eq_some_iff.mp hx1).1
      generalize hfs : fs.set nf_sitting (.int (sv ||| nm_bit p)) = fs2
      generalize hh2 : hp1.set 69 (.inr (9, fs2)) = hp2
      have hx2 : hp2[69]? = some (.inr (9, fs2)) := by rw [← hh2]; exact List.getElem?_set_self hl69
      have hL2 : hp2[na_satLast]? = some (.inl (nr_satLast, 10, .inl gL)) := by rw [← hh2, List.getElem?_set_ne (by decide)]; exact hL0
      have hB2 : hp2[na_inBag]? = some (.inl (nr_inBag, 2, .inl (upd gB bo.toNatClampNeg (nm_out (gB bo.toNatClampNeg) p)))) := by rw [← hh2, List.getElem?_set_ne (by decide)]; exact hB1
      have hsl : fs2[nf_satLast]? = some (.ref na_satLast) := by rw [← hfs, List.getElem?_set_ne (by decide)]; exact nm_f hG1 hx1 rfl
      have hss : fs2[nf_sitting]? = some (.int (sv ||| nm_bit p)) := by rw [← hfs]; exact List.getElem?_set_self hks
      refine ⟨1, hp2.set na_satLast (.inl (nr_satLast, 10, .inl (upd gL p.toNatClampNeg (d + 1)))), fs2, bar 1 _ ?_, Or.inr rfl, ?_, ?_, ?_⟩
      · refine px_q_if (bb := false) (len := 3) (c := .ge) (off := 26) rfl ?_ ?_
        · simp only [px_cmp, decide_eq_false_iff_not, ge_iff_le, Int32.le_iff_toInt_le, Int32.toInt_zero]
          exact hr4
        refine px_Z_its (pc1 := 47) (lv1 := (4, .int v4) :: lv) (st1 := [.ref 69, .ref 69]) (hp1 := hp1) 2 (fun _ _ _ _ => by subst hlv; rfl) ?_
        refine px_q_get (len := 3) (ci := 9) (k := nf_sitting) (fs := fs) (v := .int sv) rfl rfl hx1 hs ?_
        refine px_Z_its (pc1 := 54) (lv1 := (4, .int v4) :: lv) (st1 := [.int (sv ||| nm_bit p), .ref 69]) (hp1 := hp1) 4 (fun _ _ _ _ => by subst hlv; rfl) ?_
        refine px_q_putf (len := 3) (ci := 9) (k := nf_sitting) (fs := fs) rfl rfl hx1 hks rfl rfl rfl rfl ?_
        rw [hfs, hh2]
        refine px_Z_its (pc1 := 58) (lv1 := (4, .int v4) :: lv) (st1 := [.ref 69]) (hp1 := hp2) 1 (fun _ _ _ _ => by subst hlv; rfl) ?_
        refine px_q_get (len := 3) (ci := 9) (k := nf_satLast) (fs := fs2) (v := .ref na_satLast) rfl rfl hx2 hsl ?_
        refine px_Z_its (pc1 := 65) (lv1 := (4, .int v4) :: lv) (st1 := [.int (d + 1), .int p, .ref na_satLast]) (hp1 := hp2) 4 (fun _ _ _ _ => by subst hlv; rfl) ?_
        refine px_q_iast (len := 1) rfl hL2 rfl (nm_ixR p 10 p0 (by omega)) ?_
        refine px_Z_its (pc1 := 67) (lv1 := (4, .int v4) :: lv) (st1 := [.int 1]) (hp1 := hp2.set na_satLast (.inl (nr_satLast, 10, .inl (upd gL p.toNatClampNeg (d + 1))))) 1 (fun _ _ _ _ => rfl) ?_
        exact px_q_iret (len := 1) (ty := .boolean) rfl rfl rfl
      · rw [List.getElem?_set_ne (by decide)]; exact hB2
      · rw [List.getElem?_set_ne (by decide)]; exact hx2
      · rw [if_pos rfl]; exact hss
  · refine ⟨0, hp1, fs, head 0 hp1 (dead 0 hp1 ?_), Or.inl rfl, hB1, hx1, ?_⟩
    · refine px_q_if (bb := false) (len := 3) (c := .eq) (off := 5) rfl (by simp [px_cmp, hv]) ?_
      refine px_Z_its (pc1 := 31) (lv1 := lv) (st1 := [.int 0]) (hp1 := hp1) 1 (fun _ _ _ _ => rfl) ?_
      exact px_q_iret (len := 1) (ty := .boolean) rfl rfl rfl
    · rw [if_neg (by decide)]; exact hs
end mg_1

section mg_2
/-! run -/
section px_q5
variable {T : px_T} {X : Option (Nat × (Nat → Int32))} {P : List px_M} {M : px_M}
variable {pc len : Nat} {lv : List (Nat × Value)} {st : List Value} {hp hp' : px_H} {r : Option Value}
theorem px_q_aln {j : Fin 4} {a : Nat} (hf : px_find pc (px_cd M) = some (len, .aload_n j)) (hv : px_find j lv = some (.ref a)) (hR : px_Z T X P M (pc + len) lv (.ref a :: st) hp r hp') : px_Z T X P M pc lv st hp r hp' :=
  px_Z_its 1 (fun call N0 nc ns => by simp only [px_its, px_step, hf, px_alu, hv]) hR
theorem px_q_iln {j : Fin 4} {a : Int32} (hf : px_find pc (px_cd M) = some (len, .iload_n j)) (hv : px_find j lv = some (.int a)) (hR : px_Z T X P M (pc + len) lv (.int a :: st) hp r hp') : px_Z T X P M pc lv st hp r hp' :=
  px_Z_its 1 (fun call N0 nc ns => by simp only [px_its, px_step, hf, px_alu, hv]) hR
theorem px_q_il {j : Nat} {a : Int32} (hf : px_find pc (px_cd M) = some (len, .iload j)) (hv : px_find j lv = some (.int a)) (hR : px_Z T X P M (pc + len) lv (.int a :: st) hp r hp') : px_Z T X P M pc lv st hp r hp' :=
  px_Z_its 1 (fun call N0 nc ns => by simp only [px_its, px_step, hf, px_alu, hv]) hR
theorem px_q_iinc {j : Nat} {n : Int} {x : Int32} (hf : px_find pc (px_cd M) = some (len, .iinc j n)) (hv : px_find j lv = some (.int x)) (hm : decide (j < px_ml M) = true) (hR : px_Z T X P M (pc + len) (px_st1 lv j (.int (x + Int32.ofInt n))) st hp r hp') : px_Z T X P M pc lv st hp r hp' :=
  px_Z_its 1 (fun call N0 nc ns => by simp only [px_its, px_step, hf, px_alu, hv, hm]) hR
end px_q5
theorem px_st1_at (lv : List (Nat × Value)) (j : Nat) (v : Value) : px_find j (px_st1 lv j v) = some v := by
  unfold px_st1 px_find
  rw [Nat.beq_refl]
theorem px_st1_ne {lv : List (Nat × Value)} {j k : Nat} {v : Value} {x : Int32} (h : px_find k lv = some (.int x)) (hk : k ≠ j ∧ k + 1 ≠ j := by decide) : px_find k (px_st1 lv j v) = some (.int x) := ab_sto1_find h (by omega) (fun _ hc => by cases hc)
theorem px_st1_nr {lv : List (Nat × Value)} {j k : Nat} {v : Value} {x : Nat} (h : px_find k lv = some (.ref x)) (hk : k ≠ j := by decide) : px_find k (px_st1 lv j v) = some (.ref x) := ab_sto1_find h (by omega) (fun _ hc => by cases hc)
/-- the bits -/
def nm_bt (n p : Nat) : Bool :=
  bif decide (nm_hb (Int32.ofNat n) (Int32.ofNat p) = 1) then decide ((nm_bc (nm_out (Int32.ofNat n) (Int32.ofNat p))).toInt + 1 = (nm_bc (Int32.ofNat n)).toInt) else decide ((nm_bc (Int32.ofNat n ||| nm_bit (Int32.ofNat p))).toInt = (nm_bc (Int32.ofNat n)).toInt + 1)
set_option maxRecDepth 1000000 in
theorem nm_bt_tab : (List.range 1024).all (fun n => (List.range 10).all (fun p => nm_bt n p)) = true := by decide +kernel
theorem nm_nat32 (x : Int32) (h0 : 0 ≤ x.toInt) : ∃ n : Nat, x = Int32.ofNat n ∧ (n : Int) = x.toInt := by
  refine ⟨x.toInt.toNat, ?_, by omega⟩
  have := ab_i32 x
  simp only [ab_in, ab_topi] at this
  rw [← Int32.toInt_inj, nm_ofNat_toInt _ (by omega)]
  omega
theorem nm_hb_and (s w p : Int32) : nm_hb (s &&& w) p = nm_hb s p &&& nm_hb w p := by
  unfold nm_hb
  have e : (s &&& w) >>> (p &&& 31) = (s >>> (p &&& 31)) &&& (w >>> (p &&& 31)) := by
    apply Int32.toBitVec_inj.mp
    simp only [Int32.toBitVec_shiftRight, Int32.toBitVec_and, BitVec.sshiftRight_eq', BitVec.sshiftRight_and_distrib]
  rw [e]
  generalize s >>> (p &&& 31) = a
  generalize w >>> (p &&& 31) = b
  apply Int32.toBitVec_inj.mp
  simp only [Int32.toBitVec_and]
  apply BitVec.eq_of_getLsbD_eq
  intro i hi
  simp only [BitVec.getLsbD_and]
  cases a.toBitVec.getLsbD i <;> cases b.toBitVec.getLsbD i <;> cases (Int32.toBitVec 1).getLsbD i <;> rfl
theorem nm_dis_out {s w b : Int32} (h : s &&& w = 0) : (s ||| b) &&& (w &&& (b ^^^ -1)) = 0 ∧ s &&& (w &&& (b ^^^ -1)) = 0 := by
  have h2 : ∀ i : Nat, (s.toBitVec.getLsbD i && w.toBitVec.getLsbD i) = false := by
    intro i
    have := congrArg (fun x : Int32 => x.toBitVec.getLsbD i) h
    simpa only [Int32.toBitVec_and, BitVec.getLsbD_and, show Int32.toBitVec 0 = (0#32) from rfl, BitVec.getLsbD_zero] using this
  constructor
  · apply Int32.toBitVec_inj.mp
    simp only [Int32.toBitVec_and, Int32.toBitVec_or, Int32.toBitVec_xor, show Int32.toBitVec (-1) = BitVec.allOnes 32 from rfl, show Int32.toBitVec 0 = (0#32) from rfl]
    apply BitVec.eq_of_getLsbD_eq
    intro i hi
    have := h2 i
    simp only [BitVec.getLsbD_and, BitVec.getLsbD_or, BitVec.getLsbD_xor, BitVec.getLsbD_allOnes, BitVec.getLsbD_zero, decide_eq_true hi]
    revert this
    cases s.toBitVec.getLsbD i <;> cases w.toBitVec.getLsbD i <;> cases b.toBitVec.getLsbD i <;> simp
  · rw [← Int32.and_assoc, h, Int32.zero_and]
theorem nm_bits {s w p : Int32} (s0 : 0 ≤ s.toInt) (s1 : s.toInt ≤ 1023) (w0 : 0 ≤ w.toInt) (w1 : w.toInt ≤ 1023) (p0 : 0 ≤ p.toInt) (p9 : p.toInt ≤ 9) (hp : nm_hb w p = 1) (hd : s &&& w = 0) :
    (nm_bc (nm_out w p)).toInt + 1 = (nm_bc w).toInt ∧ (nm_bc (s ||| nm_bit p)).toInt = (nm_bc s).toInt + 1 ∧ (s ||| nm_bit p) &&& nm_out w p = 0 ∧ s &&& nm_out w p = 0 := by
  have hns : nm_hb s p ≠ 1 := by
    intro h
    have e := nm_hb_and s w p
    rw [h, hp, hd] at e
    have e0 : nm_hb 0 p = 0 := by
      unfold nm_hb
      rw [Int32.zero_shiftRight, Int32.zero_and]
    rw [e0] at e
    exact absurd e (by decide)
  refine ⟨?_, ?_, (nm_dis_out hd).1, (nm_dis_out hd).2⟩
  · obtain ⟨m, rfl, hm⟩ := nm_nat32 w w0
    obtain ⟨q, rfl, hq⟩ := nm_nat32 p p0
    have t2 := List.all_eq_true.mp (List.all_eq_true.mp nm_bt_tab m (List.mem_range.mpr (by omega))) q (List.mem_range.mpr (by omega))
    unfold nm_bt at t2
    rw [decide_eq_true hp] at t2
    exact of_decide_eq_true t2
  · obtain ⟨n, rfl, hn⟩ := nm_nat32 s s0
    obtain ⟨q, rfl, hq⟩ := nm_nat32 p p0
    have t1 := List.all_eq_true.mp (List.all_eq_true.mp nm_bt_tab n (List.mem_range.mpr (by omega))) q (List.mem_range.mpr (by omega))
    unfold nm_bt at t1
    rw [decide_eq_false hns] at t1
    exact of_decide_eq_true t1
theorem nm_nf_ok {w q : Int32} (w0 : 0 ≤ w.toInt) (w1 : w.toInt ≤ 1023) (q0 : 0 ≤ q.toInt) (q9 : q.toInt ≤ 9) (h : q.toInt < (nm_bc w).toInt) : 0 ≤ (nm_nf w 10 q).toInt ∧ (nm_nf w 10 q).toInt ≤ 9 ∧ nm_hb w (nm_nf w 10 q) = 1 := by
  obtain ⟨n, rfl, hn⟩ := nm_nat32 w w0
  obtain ⟨k, rfl, hk⟩ := nm_nat32 q q0
  have t := List.all_eq_true.mp (List.all_eq_true.mp nm_nf_tab n (List.mem_range.mpr (by omega))) k (List.mem_range.mpr (by omega))
  simp only [Bool.or_eq_true, Bool.and_eq_true, decide_eq_true_eq] at t
  rcases t with t | t
  · omega
  · exact ⟨t.1, t.2.1, t.2.2⟩
end mg_2

section mg_3
/-! the end of run -/
abbrev ru_ws : List (Nat × Nat) := kc_M_run_0.2.2.2.2.1
abbrev ru_wa : List Nat := kc_M_run_0.2.2.2.2.2
def ru_B : ac_S := ([(0, ((2, 0, 0, [69]), none)), (1, ((0, 0, 5, []), none)), (2, ((0, 0, 3, []), none)), (3, ((0, 0, 10, []), none))], [], [], [], [], [])
def ru_ck : Bool := match ac_run nm_T nm_P nm_GH nm_FA [kc_M_closes_0] [] ru_ws ru_wa 20000 true [] mi_M_run mm_M_run 104 ru_B with
  | some o => o.1.all (fun q => match q.1 with | some a => ab_le a.1 (0, -1, 3, []) | none => false) && o.2.isEmpty
  | none => false
set_option maxRecDepth 1000000 in
theorem ru_ck_t : ru_ck = true := by decide +kernel
end mg_3

section mg_4
/-! run: the loop -/
theorem ru_end {hp : px_H} {lv : List (Nat × Value)} {d n k : Int32} (hG : ab_h nm_GH hp) (h0 : px_find 0 lv = some (.ref 69)) (h1 : px_find 1 lv = some (.int d)) (h2 : px_find 2 lv = some (.int n)) (h3 : px_find 3 lv = some (.int k)) (d0 : 0 ≤ d.toInt) (d5 : d.toInt ≤ 5) (n0 : 0 ≤ n.toInt) (n3 : n.toInt ≤ 3) (k0 : 0 ≤ k.toInt) (k9 : k.toInt ≤ 10) :
    ∃ (r : Int32) (hp' : px_H), px_Z nm_T none nm_P mm_M_run 104 lv [] hp (some (.int r)) hp' ∧ -1 ≤ r.toInt ∧ r.toInt ≤ 3 ∧ ab_h nm_GH hp' ∧ px_fr ru_ws ru_wa hp hp' := by
  have h := ru_ck_t
  unfold ru_ck at h
  split at h
  rotate_left
  · cases h
  rename_i o ho
  simp only [Bool.and_eq_true, List.all_eq_true] at h
  have hA : ac_s nm_GH nm_Φ (fun _ => 0) (fun _ => 0) ru_B lv [] hp := by
    refine ⟨fun j a hm => ?_, trivial, hG, fun q hq => (by cases hq), fun j q hq => (by simp [ru_B] at hq), fun i hi => (by cases hi), fun q hq => (by cases hq)⟩
    simp only [ru_B, List.mem_cons, Prod.mk.injEq, List.not_mem_nil, or_false] at hm
    rcases hm with ⟨rfl, rfl⟩ | ⟨rfl, rfl⟩ | ⟨rfl, rfl⟩ | ⟨rfl, rfl⟩
    · exact ⟨_, h0, ⟨rfl, List.mem_cons_self⟩, ab_o_none _ _ _ _⟩
    · exact ⟨_, h1, ⟨rfl, d0, d5⟩, ab_o_none _ _ _ _⟩
    · exact ⟨_, h2, ⟨rfl, n0, n3⟩, ab_o_none _ _ _ _⟩
    · exact ⟨_, h3, ⟨rfl, k0, k9⟩, ab_o_none _ _ _ _⟩
  rcases ac_run_ok (xs := fun _ => 0) nm_Fl nm_FG (List.forall_mem_cons.mpr ⟨kp_M_closes_0, fun _ h => absurd h List.not_mem_nil⟩) 20000 true [] mi_M_run mm_M_run 104 _ o none _ lv [] hp ho hA with ⟨r, hp', oc, m1, m2, m3, m4⟩ | ⟨pc', lv', st', hp', A', m1, -⟩
  · have hs := h.1 oc m1
    have g1 := m2.1
    cases hq : oc.1 with
    | none => rw [hq] at hs; cases hs
    | some a =>
      rw [hq] at hs g1
      cases r with
      | none => exact absurd g1 (by simp)
      | some v =>
        obtain ⟨x, rfl, hx⟩ := ab_f0 (ab_le_ok hs (show ab_f a.1 v from g1.1))
        exact ⟨x, hp', m4, hx.1, hx.2, m2.2.1, m3⟩
  · have := h.2
    rw [List.isEmpty_iff] at this
    rw [this] at m1
    cases m1
theorem nm_h_obj {hp : px_H} {fs : List Value} (hG : ab_h nm_GH hp) (hx : hp[69]? = some (.inr (9, fs))) {k : Nat} {f : ab_F} {u : Value} (hf : ∀ FS, nm_GH[69]? = some (.inl (9, FS)) → FS[k]? = some f) (hu : ab_f f u) : ab_h nm_GH (hp.set 69 (.inr (9, fs.set k u))) := by
  refine ⟨by rw [List.length_set]; exact hG.1, fun j a y ha hy => ?_⟩
  by_cases hj : j = 69
  · subst hj
    rw [List.getElem?_set_self (List.getElem?_eq_some_iff.mp hx).1] at hy
    cases hy
    have h1 := hG.2 69 a _ ha hx
    cases a with
    | inr q => exact absurd h1 (by simp [ab_c])
    | inl q =>
      obtain ⟨ci, FS⟩ := q
      obtain ⟨e1, e2, e3⟩ := h1
      subst e1
      refine ⟨rfl, by rw [List.length_set]; exact e2, fun k' f' v hf' hv => ?_⟩
      by_cases hk : k' = k
      · subst hk
        have hlt : k' < fs.length := by
          have := (List.getElem?_eq_some_iff.mp hv).1
          rwa [List.length_set] at this
        rw [List.getElem?_set_self hlt] at hv
        cases hv
        rw [hf FS ha] at hf'
        cases hf'
        exact hu
      · rw [List.getElem?_set_ne (fun h => hk h.symm)] at hv
        exact e3 k' f' v hf' hv
  · rw [List.getElem?_set_ne (fun h => hj h.symm)] at hy
    exact hG.2 j a y ha hy
theorem ru_pre {hp hp1 hp' : px_H} {Q : Int32 → Prop} {pc pc1 : Nat} {lv lv1 : List (Nat × Value)} {st st1 : List Value} (hfr : px_fr ru_ws ru_wa hp hp1) (hZ : ∀ (r : Option Value) (h2 : px_H), px_Z nm_T none nm_P mm_M_run pc1 lv1 st1 hp1 r h2 → px_Z nm_T none nm_P mm_M_run pc lv st hp r h2)
    (h : ∃ (r : Int32) (hp' : px_H), px_Z nm_T none nm_P mm_M_run pc1 lv1 st1 hp1 (some (.int r)) hp' ∧ -1 ≤ r.toInt ∧ r.toInt ≤ 3 ∧ ab_h nm_GH hp' ∧ px_fr ru_ws ru_wa hp1 hp') : ∃ (r : Int32) (hp' : px_H), px_Z nm_T none nm_P mm_M_run pc lv st hp (some (.int r)) hp' ∧ -1 ≤ r.toInt ∧ r.toInt ≤ 3 ∧ ab_h nm_GH hp' ∧ px_fr ru_ws ru_wa hp hp' := by
  obtain ⟨r, hp', a1, a2, a3, a4, a5⟩ := h
  exact ⟨r, hp', hZ _ _ a1, a2, a3, a4, px_fr_tr hfr a5⟩
set_option maxHeartbeats 4000000 in
theorem ru_loop {gO gS : Nat → Int32} {d bo : Int32} (d0 : 0 ≤ d.toInt) (d5 : d.toInt ≤ 5) (hbo : gO d.toNatClampNeg = bo) (b0 : 0 ≤ bo.toInt) (b1 : bo.toInt ≤ 1) (hS3 : (gS d.toNatClampNeg).toInt ≤ 3) : ∀ (m : Nat) (lv : List (Nat × Value)) (hp : px_H) (fs : List Value) (gB : Nat → Int32) (sv n k : Int32), ab_h nm_GH hp → hp[69]? = some (.inr (9, fs)) → hp[na_inBag]? = some (.inl (nr_inBag, 2, .inl gB)) → hp[na_bagOf]? = some (.inl (nr_bagOf, 6, .inl gO)) → hp[na_seatsOf]? = some (.inl (nr_seatsOf, 6, .inl gS)) → fs[nf_sitting]? = some (.int sv) →
    px_find 0 lv = some (.ref 69) → px_find 1 lv = some (.int d) → px_find 2 lv = some (.int n) → px_find 3 lv = some (.int k) → sv &&& gB bo.toNatClampNeg = 0 → nm_bc sv = n → n.toInt ≤ (gS d.toNatClampNeg).toInt → 0 ≤ k.toInt → k.toInt + (nm_bc (gB bo.toNatClampNeg)).toInt ≤ 10 → (nm_bc (gB bo.toNatClampNeg)).toInt < m →
    ∃ (r : Int32) (hp' : px_H), px_Z nm_T none nm_P mm_M_run 32 lv [] hp (some (.int r)) hp' ∧ -1 ≤ r.toInt ∧ r.toInt ≤ 3 ∧ ab_h nm_GH hp' ∧ px_fr ru_ws ru_wa hp hp' := by
  intro m
  induction m with
  | zero =>
    intro lv hp fs gB sv n k hG hx hB hO hS hs l0 l1 l2 l3 hd hn hn3 hk hkw hm
    have := (nm_bc_63 (gB bo.toNatClampNeg)).1
    omega
  | succ m ih =>
    intro lv hp fs gB sv n k hG hx hB hO hS hs l0 l1 l2 l3 hd hn hn3 hk hkw hm
    obtain ⟨gB', hB', bB⟩ := ac_arrI hG (c := na_inBag) (t := nr_inBag) (n := 2) (lo := 0) (hi := 1023) (Nat.le_of_ble_eq_true rfl) rfl
    rw [hB] at hB'
    cases hB'
    have hw := bB bo.toNatClampNeg (by unfold Int32.toNatClampNeg; omega)
    obtain ⟨sv', hs', s0, s1⟩ := nm_fI hG hx (k := nf_sitting) (a := 0) (b := 1023) rfl
    rw [hs] at hs'
    cases hs'
    have n0 : 0 ≤ n.toInt := by rw [← hn]; exact (nm_bc_63 sv).1
    have bw0 := (nm_bc_63 (gB bo.toNatClampNeg)).1
    obtain ⟨ov, hov, hr01, hr0⟩ := nm_over hG hx hB hO hS hs d0 d5 hbo b0 b1
    refine ru_pre (pc1 := 37) (lv1 := lv) (st1 := [.int ov]) (hp1 := hp) (Q := fun _ => True) (hp' := hp) (px_fr_rf _ _ _) (fun r h2 hz => ?_) ?_
    · refine px_q_aln (len := 1) (j := 0) rfl l0 ?_
      refine px_q_iln (len := 1) (j := 1) rfl l1 ?_
      exact px_q_virt (len := 3) (n := 1) (a := 69) (N := mm_M_isOver) (mi := mi_M_isOver) (ci := 9) rfl rfl rfl hx rfl (Nat.le_of_ble_eq_true rfl) (Nat.le_of_ble_eq_true rfl) rfl rfl hov hz
    rcases hr01 with rfl | rfl
    rotate_left
    · refine ru_pre (pc1 := 104) (lv1 := lv) (st1 := []) (hp1 := hp) (Q := fun _ => True) (hp' := hp) (px_fr_rf _ _ _) (fun r h2 hz => px_q_if (bb := true) (len := 3) (c := .ne) (off := 67) rfl (by decide) hz) ?_
      exact ru_end hG l0 l1 l2 l3 d0 d5 n0 (by omega) hk (by omega)
    obtain ⟨hw0, hns⟩ := hr0 rfl
    have hw1 : 1 ≤ (gB bo.toNatClampNeg).toInt := by
      have : (gB bo.toNatClampNeg).toInt ≠ 0 := fun h => hw0 (by rw [← Int32.toInt_inj, h, Int32.toInt_zero])
      omega
    have hb10 := nm_bc_10 (gB bo.toNatClampNeg) hw1 hw.2
    have hnl : n.toInt < (gS d.toNatClampNeg).toInt := by
      have : n.toInt ≠ (gS d.toNatClampNeg).toInt := fun h => hns (by rw [hn, ← Int32.toInt_inj, h])
      omega
    obtain ⟨q, x, hdr, q0, q1⟩ := nm_draws_C hG hx (nm_bc (gB bo.toNatClampNeg)) hb10.1 hb10.2
    generalize hw9 : gB bo.toNatClampNeg = w at *
    have hnf := nm_nf_ok (w := w) (q := q) (by omega) hw.2 q0 (by omega) q1
    generalize hpp : nm_nf w 10 q = p at hnf
    have hks : nf_sitting < fs.length := (List.getElem?_eq_some_iff.mp hs).1
    have hl69 : 69 < hp.length := (List.getElem?_eq_some_iff.mp hx).1
    have hx2 : (hp.set 69 (.inr (9, fs.set nf_random (.int x))))[69]? = some (.inr (9, fs.set nf_random (.int x))) := List.getElem?_set_self hl69
    have hs2 : (fs.set nf_random (.int x))[nf_sitting]? = some (.int sv) := by rw [List.getElem?_set_ne (by decide)]; exact hs
    have hG2 : ab_h nm_GH (hp.set 69 (.inr (9, fs.set nf_random (.int x)))) := nm_h_obj hG hx (f := (0, -2147483648, 2147483647, [])) (fun FS h => by cases h; rfl) ⟨rfl, ab_i32 _⟩
    have hfr2 : px_fr ru_ws ru_wa hp (hp.set 69 (.inr (9, fs.set nf_random (.int x)))) := px_fr_obj hx (by decide)
    have hB2 : (hp.set 69 (.inr (9, fs.set nf_random (.int x))))[na_inBag]? = some (.inl (nr_inBag, 2, .inl gB)) := by rw [List.getElem?_set_ne (by decide)]; exact hB
    have hO2 : (hp.set 69 (.inr (9, fs.set nf_random (.int x))))[na_bagOf]? = some (.inl (nr_bagOf, 6, .inl gO)) := by rw [List.getElem?_set_ne (by decide)]; exact hO
    have hS2 : (hp.set 69 (.inr (9, fs.set nf_random (.int x))))[na_seatsOf]? = some (.inl (nr_seatsOf, 6, .inl gS)) := by rw [List.getElem?_set_ne (by decide)]; exact hS
    generalize hp.set 69 (.inr (9, fs.set nf_random (.int x))) = hp2 at hdr hx2 hG2 hfr2 hB2 hO2 hS2
    generalize fs.set nf_random (.int x) = fs2 at hx2 hs2
    obtain ⟨gL, hL2, -⟩ := ac_arrI hG2 (c := na_slips) (t := nr_slips) (n := 10) (lo := (-2147483648)) (hi := 2147483647) (Nat.le_of_ble_eq_true rfl) rfl
    have hfs2 : fs2[nf_slips]? = some (.ref na_slips) := nm_f hG2 hx2 rfl
    have hG3 : ab_h nm_GH (hp2.set na_slips (.inl (nr_slips, 10, .inl (upd gL k.toNatClampNeg p)))) := ac_h_arr hG2 hL2 rfl ⟨rfl, rfl, fun j _ => ⟨rfl, ab_i32 _⟩⟩
    have hfr3 : px_fr ru_ws ru_wa hp (hp2.set na_slips (.inl (nr_slips, 10, .inl (upd gL k.toNatClampNeg p)))) := px_fr_tr hfr2 (px_fr_arr hL2 (by decide))
    have hx3 : (hp2.set na_slips (.inl (nr_slips, 10, .inl (upd gL k.toNatClampNeg p))))[69]? = some (.inr (9, fs2)) := by rw [List.getElem?_set_ne (by decide)]; exact hx2
    have hB3 : (hp2.set na_slips (.inl (nr_slips, 10, .inl (upd gL k.toNatClampNeg p))))[na_inBag]? = some (.inl (nr_inBag, 2, .inl gB)) := by rw [List.getElem?_set_ne (by decide)]; exact hB2
    have hO3 : (hp2.set na_slips (.inl (nr_slips, 10, .inl (upd gL k.toNatClampNeg p))))[na_bagOf]? = some (.inl (nr_bagOf, 6, .inl gO)) := by rw [List.getElem?_set_ne (by decide)]; exact hO2
    have hS3' : (hp2.set na_slips (.inl (nr_slips, 10, .inl (upd gL k.toNatClampNeg p))))[na_seatsOf]? = some (.inl (nr_seatsOf, 6, .inl gS)) := by rw [List.getElem?_set_ne (by decide)]; exact hS2
    generalize hh3 : hp2.set na_slips (.inl (nr_slips, 10, .inl (upd gL k.toNatClampNeg p))) = hp3 at hG3 hfr3 hx3 hB3 hO3 hS3'
    obtain ⟨r, hp4, fs4, hC4, hG4, hfr4, hr4, hB4, hx4, hs4⟩ := nm_takes hG3 hx3 (p := p) hB3 hO3 hs2 d0 d5 hnf.1 hnf.2.1 hbo b0 b1
    have hO4 := hfr4.1 na_bagOf _ (by decide) hO3
    have hS4 := hfr4.1 na_seatsOf _ (by decide) hS3'
    have hfr4' : px_fr ru_ws ru_wa hp hp4 := px_fr_tr hfr3 (px_fr_mono hfr4 (by decide) (by decide))
    have bits := nm_bits (p := p) s0 s1 hw.1 hw.2 hnf.1 hnf.2.1 hnf.2.2 hd
    rw [hw9] at hB4
    have eu : upd gB bo.toNatClampNeg (nm_out w p) bo.toNatClampNeg = nm_out w p := by simp [upd]
    have k1 : (k + Int32.ofInt 1).toInt = k.toInt + 1 := by
      rw [Int32.toInt_add, show (Int32.ofInt 1).toInt = 1 from by decide]
      apply Int.bmod_eq_of_le <;> omega
    have n1 : (n + Int32.ofInt 1).toInt = n.toInt + 1 := by
      rw [Int32.toInt_add, show (Int32.ofInt 1).toInt = 1 from by decide]
      apply Int.bmod_eq_of_le <;> omega
    generalize hlA : px_st1 lv 4 (.int w) = lvA
    have a0 : px_find 0 lvA = some (.ref 69) := by rw [← hlA]; exact px_st1_nr l0
    have a1 : px_find 1 lvA = some (.int d) := by rw [← hlA]; exact px_st1_ne l1
    have a2 : px_find 2 lvA = some (.int n) := by rw [← hlA]; exact px_st1_ne l2
    have a3 : px_find 3 lvA = some (.int k) := by rw [← hlA]; exact ab_sto1_find l3 (by decide) (fun _ hc => by cases hc)
    have a4 : px_find 4 lvA = some (.int w) := by rw [← hlA]; exact px_st1_at _ _ _
    generalize hlB : px_st1 lvA 5 (.int p) = lvB
    have c0 : px_find 0 lvB = some (.ref 69) := by rw [← hlB]; exact px_st1_nr a0
    have c1 : px_find 1 lvB = some (.int d) := by rw [← hlB]; exact px_st1_ne a1
    have c2 : px_find 2 lvB = some (.int n) := by rw [← hlB]; exact px_st1_ne a2
    have c3 : px_find 3 lvB = some (.int k) := by rw [← hlB]; exact px_st1_ne a3
    have c5 : px_find 5 lvB = some (.int p) := by rw [← hlB]; exact px_st1_at _ _ _
    generalize hlC : px_st1 lvB 3 (.int (k + Int32.ofInt 1)) = lvC
    have e0 : px_find 0 lvC = some (.ref 69) := by rw [← hlC]; exact px_st1_nr c0
    have e1 : px_find 1 lvC = some (.int d) := by rw [← hlC]; exact px_st1_ne c1
    have e2 : px_find 2 lvC = some (.int n) := by rw [← hlC]; exact ab_sto1_find c2 (by decide) (fun _ hc => by cases hc)
    have e3 : px_find 3 lvC = some (.int (k + Int32.ofInt 1)) := by rw [← hlC]; exact px_st1_at _ _ _
    have e5 : px_find 5 lvC = some (.int p) := by rw [← hlC]; exact ab_sto1_find c5 (by decide) (fun _ hc => by cases hc)
    refine ru_pre (pc1 := 87) (lv1 := lvC) (st1 := [.int r]) (hp1 := hp4) (Q := fun _ => True) (hp' := hp) hfr4' (fun r9 h2 hz => ?_) ?_
    · refine px_q_if (bb := false) (len := 3) (c := .ne) (off := 67) rfl (by decide) ?_
      refine px_q_aln (len := 1) (j := 0) rfl l0 ?_
      refine px_q_get (len := 3) (ci := 9) (k := nf_inBag) (fs := fs) (v := .ref na_inBag) rfl rfl hx (nm_f hG hx rfl) ?_
      refine px_q_aln (len := 1) (j := 0) rfl l0 ?_
      refine px_q_get (len := 3) (ci := 9) (k := nf_bagOf) (fs := fs) (v := .ref na_bagOf) rfl rfl hx (nm_f hG hx rfl) ?_
      refine px_q_iln (len := 1) (j := 1) rfl l1 ?_
      refine px_q_iald (len := 1) rfl hO rfl (nm_ixR d 6 d0 (by omega)) ?_
      rw [hbo]
      refine px_q_iald (len := 1) rfl hB rfl (nm_ixR bo 2 b0 (by omega)) ?_
      rw [hw9]
      refine px_Z_its (pc1 := 53) (lv1 := lvA) (st1 := []) (hp1 := hp) 1 (fun _ _ _ _ => by rw [← hlA]; rfl) ?_
      refine px_q_il (len := 2) (j := 4) rfl a4 ?_
      refine px_q_aln (len := 1) (j := 0) rfl a0 ?_
      refine px_q_il (len := 2) (j := 4) rfl a4 ?_
      refine px_q_stat (len := 3) (n := 1) (N := mm_I_bitCount) (mi := mi_I_bitCount) rfl rfl rfl (Nat.le_of_ble_eq_true rfl) (Nat.le_of_ble_eq_true rfl) rfl rfl (nm_bc_C w hp) ?_
      refine px_q_virt (len := 3) (n := 1) (a := 69) (N := mm_M_draws) (mi := mi_M_draws) (ci := 9) rfl rfl rfl hx rfl (Nat.le_of_ble_eq_true rfl) (Nat.le_of_ble_eq_true rfl) rfl rfl hdr ?_
      refine px_q_stat (len := 3) (n := 2) (N := mm_M_nth) (mi := mi_M_nth) rfl rfl rfl (Nat.le_of_ble_eq_true rfl) (Nat.le_of_ble_eq_true rfl) rfl rfl (nm_nth_C w q hp2) ?_
      rw [hpp]
      refine px_Z_its (pc1 := 69) (lv1 := lvB) (st1 := []) (hp1 := hp2) 1 (fun _ _ _ _ => by rw [← hlB]; rfl) ?_
      refine px_q_aln (len := 1) (j := 0) rfl c0 ?_
      refine px_q_get (len := 3) (ci := 9) (k := nf_slips) (fs := fs2) (v := .ref na_slips) rfl rfl hx2 hfs2 ?_
      refine px_q_iln (len := 1) (j := 3) rfl c3 ?_
      refine px_q_il (len := 2) (j := 5) rfl c5 ?_
      refine px_q_iast (len := 1) rfl hL2 rfl (nm_ixR k 10 hk (by omega)) ?_
      rw [hh3]
      refine px_q_iinc (len := 3) (j := 3) (n := 1) rfl c3 rfl ?_
      rw [hlC]
      refine px_q_aln (len := 1) (j := 0) rfl e0 ?_
      refine px_q_iln (len := 1) (j := 1) rfl e1 ?_
      refine px_q_il (len := 2) (j := 5) rfl e5 ?_
      exact px_q_virt (len := 3) (n := 2) (a := 69) (N := mm_M_takes) (mi := mi_M_takes) (ci := 9) rfl rfl rfl hx3 rfl (Nat.le_of_ble_eq_true rfl) (Nat.le_of_ble_eq_true rfl) rfl rfl hC4 hz
    rcases hr4 with rfl | rfl
    · refine ru_pre (pc1 := 32) (lv1 := lvC) (st1 := []) (hp1 := hp4) (Q := fun _ => True) (hp' := hp) (px_fr_rf _ _ _) (fun r9 h2 hz => px_q_if (bb := true) (len := 3) (c := .eq) (off := 14) rfl (by decide) (px_Z_its (pc1 := 32) (lv1 := lvC) (st1 := []) (hp1 := hp4) 1 (fun _ _ _ _ => rfl) hz)) ?_
      rw [if_neg (by decide)] at hs4
      exact ih lvC hp4 fs4 _ sv n _ hG4 hx4 hB4 hO4 hS4 hs4 e0 e1 e2 e3 (by rw [eu]; exact bits.2.2.2) hn hn3 (by omega) (by rw [eu]; omega) (by rw [eu]; omega)
    · rw [if_pos rfl] at hs4
      obtain ⟨gT, hT4, -⟩ := ac_arrI hG4 (c := na_sits) (t := nr_sits) (n := 3) (lo := (-2147483648)) (hi := 2147483647) (Nat.le_of_ble_eq_true rfl) rfl
      have hfs4 : fs4[nf_sits]? = some (.ref na_sits) := nm_f hG4 hx4 rfl
      generalize hlD : px_st1 lvC 2 (.int (n + Int32.ofInt 1)) = lvD
      have g0 : px_find 0 lvD = some (.ref 69) := by rw [← hlD]; exact px_st1_nr e0
      have g1 : px_find 1 lvD = some (.int d) := by rw [← hlD]; exact ab_sto1_find e1 (by decide) (fun _ hc => by cases hc)
      have g2 : px_find 2 lvD = some (.int (n + Int32.ofInt 1)) := by rw [← hlD]; exact px_st1_at _ _ _
      have g3 : px_find 3 lvD = some (.int (k + Int32.ofInt 1)) := by rw [← hlD]; exact ab_sto1_find e3 (by decide) (fun _ hc => by cases hc)
      refine ru_pre (pc1 := 32) (lv1 := lvD) (st1 := []) (hp1 := hp4.set na_sits (.inl (nr_sits, 3, .inl (upd gT n.toNatClampNeg p)))) (Q := fun _ => True) (hp' := hp) (px_fr_arr hT4 (by decide)) (fun r9 h2 hz => ?_) ?_
      · refine px_q_if (bb := false) (len := 3) (c := .eq) (off := 14) rfl (by decide) ?_
        refine px_q_aln (len := 1) (j := 0) rfl e0 ?_
        refine px_q_get (len := 3) (ci := 9) (k := nf_sits) (fs := fs4) (v := .ref na_sits) rfl rfl hx4 hfs4 ?_
        refine px_q_iln (len := 1) (j := 2) rfl e2 ?_
        refine px_q_il (len := 2) (j := 5) rfl e5 ?_
        refine px_q_iast (len := 1) rfl hT4 rfl (nm_ixR n 3 n0 (by omega)) ?_
        refine px_q_iinc (len := 3) (j := 2) (n := 1) rfl e2 rfl ?_
        rw [hlD]
        exact px_Z_its (pc1 := 32) (lv1 := lvD) (st1 := []) 1 (fun _ _ _ _ => rfl) hz
      exact ih lvD _ fs4 _ (sv ||| nm_bit p) (n + Int32.ofInt 1) _ (ac_h_arr hG4 hT4 rfl ⟨rfl, rfl, fun j _ => ⟨rfl, ab_i32 _⟩⟩) (by rw [List.getElem?_set_ne (by decide)]; exact hx4) (by rw [List.getElem?_set_ne (by decide)]; exact hB4) (by rw [List.getElem?_set_ne (by decide)]; exact hO4) (by rw [List.getElem?_set_ne (by decide)]; exact hS4) hs4 g0 g1 g2 g3 (by rw [eu]; exact bits.2.2.1)
        (by rw [← Int32.toInt_inj, bits.2.1, n1, hn]) (by omega) (by omega) (by rw [eu]; omega) (by rw [eu]; omega)
end mg_4

section mg_5
/-! run: the contract -/
def ru_B0 : ac_S := ([(0, ((2, 0, 0, [69]), none)), (1, ((0, 0, 5, []), none)), (2, ((0, 0, 0, []), none)), (3, ((0, 0, 0, []), none))], [], [(69, nf_sitting, (0, 0, 0, []))], ac_gh kc_M_run_0.2.1, [], [])
def ru_en : Bool := match ac_run nm_T nm_P nm_GH nm_FA [kc_M_barredBy_0] [kl_M_opens_57] ru_ws ru_wa 20000 false [32] mi_M_run mm_M_run 0 (ab_args 0 (ac_ini 0 kc_M_run_0.2.1), [], [], ac_gh kc_M_run_0.2.1, kc_M_run_0.2.2.1, []) with
  | some o => o.1.all (fun q => match q.1 with | some a => ab_le a.1 (0, -1, 3, []) | none => false) && o.2.all (fun q => Nat.beq q.1 32 && ac_le nm_GH none q.2 ru_B0)
  | none => false
set_option maxRecDepth 1000000 in
theorem ru_en_t : ru_en = true := by decide +kernel
theorem kp_M_run_0 : nm_ok kc_M_run_0 := by
  intro av hp hG hgs hfl
  have hst : ab_st (ac_xs av) (lv_args 0 av) hp (ac_ini 0 kc_M_run_0.2.1) av := ac_ini_ok hgs (fun j => by rw [Nat.zero_add])
  obtain ⟨v, rfl, hv⟩ := nm_arg1 hgs
  obtain ⟨c, rfl, hc⟩ := ab_f2 hv
  cases List.mem_singleton.mp hc
  have hxx : ab_x (ac_gh kc_M_run_0.2.1) (ac_xs [.ref 69]) := by
    intro j q hq
    match j, hq with
    | 0, hq => cases hq; exact ab_i32 _
    | j + 1, hq => simp [ac_gh, kc_M_run_0] at hq
  have fin : (∃ (r : Int32) (hp' : px_H), px_Z nm_T none nm_P mm_M_run 0 (lv_args 0 [.ref 69]) [] hp (some (.int r)) hp' ∧ -1 ≤ r.toInt ∧ r.toInt ≤ 3 ∧ ab_h nm_GH hp' ∧ px_fr ru_ws ru_wa hp hp') →
      ∃ (r : Option Value) (hp' : px_H) (o : Option ab_F × List (Nat × ab_B) × List Nat), o ∈ kc_M_run_0.2.2.2.1 ∧ px_C nm_T nm_P kc_M_run_0.1 [.ref 69] hp r hp' ∧ ab_h nm_GH hp' ∧ ac_rv o.1 r ∧ (∀ q ∈ o.2.1, ∃ v z, [Value.ref 69][q.1]? = some v ∧ ab_num v = some z ∧ ab_in q.2 z) ∧ (∀ i ∈ o.2.2, nm_Φ i hp') ∧ px_fr kc_M_run_0.2.2.2.2.1 kc_M_run_0.2.2.2.2.2 hp hp' := by
    rintro ⟨r, hp', z1, z2, z3, z4, z5⟩
    exact ⟨some (.int r), hp', _, List.mem_cons_self, px_C_of (N := mm_M_run) rfl (Nat.le_of_ble_eq_true rfl) z1, z4, ⟨rfl, z2, z3⟩, fun q hq => (by cases hq), fun i hi => (by cases hi), z5⟩
  refine fin ?_
  have hen := ru_en_t
  unfold ru_en at hen
  split at hen
  rotate_left
  · cases hen
  rename_i o ho
  simp only [Bool.and_eq_true, List.all_eq_true] at hen
  rcases ac_run_ok (xs := ac_xs [.ref 69]) nm_Fl nm_FG (List.forall_mem_cons.mpr ⟨kp_M_barredBy_0, fun _ h => absurd h List.not_mem_nil⟩) 20000 false [32] mi_M_run mm_M_run 0 _ o none (fun _ => 0) (lv_args 0 [.ref 69]) [] hp ho ⟨fun j a hm => ab_args_ok 0 hst j a hm, trivial, hG, fun q hq => (by cases hq), hxx, hfl, fun q hq => (by cases hq)⟩ with ⟨r, hp', oc, m1, m2, m3, m4⟩ | ⟨pc', lv', st', hp', A', m1, m2, m3, m4⟩
  · have hs := hen.1 oc m1
    have g1 := m2.1
    cases hq : oc.1 with
    | none => rw [hq] at hs; cases hs
    | some a =>
      rw [hq] at hs g1
      cases r with
      | none => exact absurd g1 (by simp)
      | some v =>
        obtain ⟨x, rfl, hx⟩ := ab_f0 (ab_le_ok hs (show ab_f a.1 v from g1.1))
        exact ⟨x, hp', m4, hx.1, hx.2, m2.2.1, m3⟩
  · obtain ⟨q1, q2⟩ := hen.2 _ m1
    have q1 := Nat.eq_of_beq_eq_true q1
    simp only at q1
    subst q1
    obtain ⟨γ2, -, h2, -⟩ := ac_le_ok q2 m2
    obtain ⟨b1, b2, b3, b4, -⟩ := h2
    have est : st' = [] := by
      cases st' with
      | nil => rfl
      | cons v s => exact absurd b2 (by simp [ru_B0, ab_st])
    subst est
    obtain ⟨v0, l0, f0⟩ := b1 0 _ (List.mem_cons_self)
    obtain ⟨v1, l1, f1⟩ := b1 1 _ (List.mem_cons_of_mem _ List.mem_cons_self)
    obtain ⟨v2, l2, f2⟩ := b1 2 _ (List.mem_cons_of_mem _ (List.mem_cons_of_mem _ List.mem_cons_self))
    obtain ⟨v3, l3, f3⟩ := b1 3 _ (List.mem_cons_of_mem _ (List.mem_cons_of_mem _ (List.mem_cons_of_mem _ List.mem_cons_self)))
    obtain ⟨c0, rfl, e0⟩ := ab_f2 f0.1
    cases List.mem_singleton.mp e0
    obtain ⟨d, rfl, hd⟩ := ab_f0 f1.1
    obtain ⟨n, rfl, hn⟩ := ab_f0 f2.1
    obtain ⟨k, rfl, hk⟩ := ab_f0 f3.1
    obtain ⟨fs, hx, -, -⟩ := ac_obj b3 (c := 69) rfl
    obtain ⟨sv, hs, -, -⟩ := nm_fI b3 hx (k := nf_sitting) (a := 0) (b := 1023) rfl
    have hsv := b4 (69, nf_sitting, (0, 0, 0, [])) List.mem_cons_self (.int sv) (by simp only [ac_fv, hx]; exact hs)
    obtain ⟨gB, hB, bB⟩ := ac_arrI b3 (c := na_inBag) (t := nr_inBag) (n := 2) (lo := 0) (hi := 1023) (Nat.le_of_ble_eq_true rfl) rfl
    obtain ⟨gO, hO, bO⟩ := ac_arrI b3 (c := na_bagOf) (t := nr_bagOf) (n := 6) (lo := 0) (hi := 1) (Nat.le_of_ble_eq_true rfl) rfl
    obtain ⟨gS, hS, bS⟩ := ac_arrI b3 (c := na_seatsOf) (t := nr_seatsOf) (n := 6) (lo := 0) (hi := 3) (Nat.le_of_ble_eq_true rfl) rfl
    have hd0 := hd.1
    have hd5 := hd.2
    simp only at hd0 hd5
    have hdn : d.toNatClampNeg < 6 := by unfold Int32.toNatClampNeg; omega
    have hO2 := bO _ hdn
    have hS2 := bS _ hdn
    have hcl : ∀ b : Int32, b.toInt ≤ 1 → b.toNatClampNeg < 2 := fun b hb => by unfold Int32.toNatClampNeg; omega
    have hbn : (gO d.toNatClampNeg).toNatClampNeg < 2 := hcl _ hO2.2
    have hw := bB _ hbn
    have sv0 : sv = 0 := by
      rw [← Int32.toInt_inj, Int32.toInt_zero]
      have := hsv.2.1
      have := hsv.2.2
      simp only at *
      omega
    have n0 : n = 0 := by
      rw [← Int32.toInt_inj, Int32.toInt_zero]
      have := hn.1
      have := hn.2
      simp only at *
      omega
    have k0 : k.toInt = 0 := by
      have := hk.1
      have := hk.2
      simp only at *
      omega
    subst sv0
    subst n0
    have hbw : (nm_bc (gB (gO d.toNatClampNeg).toNatClampNeg)).toInt ≤ 10 := by
      by_cases hz : (gB (gO d.toNatClampNeg).toNatClampNeg).toInt = 0
      · rw [show gB (gO d.toNatClampNeg).toNatClampNeg = 0 from by rw [← Int32.toInt_inj, hz, Int32.toInt_zero]]
        decide
      · exact (nm_bc_10 _ (by omega) hw.2).2
    obtain ⟨r, hp9, z1, z2, z3, z4, z5⟩ := ru_loop hd0 hd5 rfl hO2.1 hO2.2 hS2.2 100 lv' hp' fs gB 0 0 k b3 hx hB hO hS hs l0 l1 l2 l3 (Int32.zero_and) (by decide) (by rw [Int32.toInt_zero]; exact hS2.1) (by omega) (by omega) (by omega)
    obtain ⟨n1, k1, h1⟩ := m4
    obtain ⟨n2, k2, h3⟩ := z1
    exact ⟨r, hp9, ⟨max n1 n2, k1 + k2, fun n9 hn9 N0 nc ns q1 q2 => px_its_run k1 (h1 n9 (by omega) N0 nc ns q1 q2) (h3 n9 (by omega) N0 nc ns q1 q2)⟩, z2, z3, z4, px_fr_tr m3 z5⟩
end mg_5
