/-! NamesInBagsModel.adds -/
theorem nm_inR (k n : Nat) (h : k < n) (hn : n < 2147483648) : px_inR (Int32.ofNat k) n = true := by
  simp only [px_inR, Bool.and_eq_true, decide_eq_true_eq, nm_ofNat_toInt k (by omega)]
  omega
theorem nm_th_idx (tn e : Nat) : Int32.ofNat tn * (Int16.ofInt 3001).toInt32 + Int32.ofNat e = Int32.ofNat (tn * 3001 + e) := by
  rw [show (Int16.ofInt 3001).toInt32 = Int32.ofNat 3001 from by decide, ← Int32.ofNat_mul, ← Int32.ofNat_add]
theorem nm_next8 (k : Nat) (h : k < 8192) : (Int32.ofNat k + Int32.ofInt 1) &&& (Int16.ofInt 8191).toInt32 = Int32.ofNat ((k + 1) % 8192) := by
  have h1 : Int32.ofNat k + Int32.ofInt 1 = Int32.ofNat (k + 1) := by rw [Int32.ofNat_add]; rfl
  rw [h1]
  by_cases h2 : k = 8191
  · subst h2
    decide
  · have h3 : (k + 1) % 8192 = k + 1 := Nat.mod_eq_of_lt (by omega)
    rw [h3]
    have e1 : (Int32.ofNat (k + 1)).toBitVec.toNat = k + 1 := by
      rw [Int32.toBitVec_ofNat', BitVec.toNat_ofNat]
      omega
    have e2 : ((Int16.ofInt 8191).toInt32).toBitVec.toNat = 2 ^ 13 - 1 := by decide
    rw [← Int32.toBitVec_inj]
    apply BitVec.eq_of_toNat_eq
    rw [Int32.toBitVec_and, BitVec.toNat_and, e1, e2, Nat.and_two_pow_sub_one_eq_mod]
    exact Nat.mod_eq_of_lt (by omega)
set_option maxRecDepth 100000 in
theorem nm_adds_a0 {hp : px_H} {vs : List Value} {f g : Nat → Int32} {o1 o2 pt : Nat → Int64} {tn k : Nat} {a b ch : Int64} {r : Option Value} {hp' : px_H} (h69 : hp[69]? = some (.inr (9, vs))) (hrf : ∀ (k d : Nat), ac_f1 nm_GH 9 k 69 = some (2, 0, 0, [d]) → vs[k]? = some (.ref d))
    (hh : hp[na_hash]? = some (.inl (nr_hash, 24576, .inl f))) (hs : hp[na_size]? = some (.inl (nr_size, 3, .inl g))) (h1 : hp[na_one]? = some (.inl (nr_one, 9003, .inr (.inl o1)))) (h2 : hp[na_other]? = some (.inl (nr_other, 9003, .inr (.inl o2)))) (hq : hp[na_part]? = some (.inl (nr_part, 9003, .inr (.inl pt)))) (htn : tn ≤ 2) (hk : k < 8192)
    {e : Nat} (he : f (tn * 8192 + k) = Int32.ofNat e) (he9 : e < 3000) (hne : o1 (tn * 3001 + e) ≠ a)
    (hR : px_Z nm_T none nm_P mm_M_adds 21 [(8, .int (Int32.ofNat ((k + 1) % 8192))), (9, .int (Int32.ofNat (tn * 3001 + e))), (6, .long b), (4, .long a), (0, .ref 69), (1, .int (Int32.ofNat tn)), (2, .long ch)] [] hp r hp') : px_Z nm_T none nm_P mm_M_adds 21 [(8, .int (Int32.ofNat k)), (6, .long b), (4, .long a), (0, .ref 69), (1, .int (Int32.ofNat tn)), (2, .long ch)] [] hp r hp' := by
  refine px_Z_its (pc1 := 22) (lv1 := [(8, .int (Int32.ofNat k)), (6, .long b), (4, .long a), (0, .ref 69), (1, .int (Int32.ofNat tn)), (2, .long ch)]) (st1 := [.ref 69]) (hp1 := hp) 1 (fun _ _ _ _ => rfl) ?_
  refine px_q_get (len := 3) (idx := 260) (ci := 9) (k := 44) (fl := 3) (fs := vs) (v := .ref na_hash) rfl rfl h69 (hrf 44 na_hash rfl) ?_
  refine px_Z_its (pc1 := 33) (lv1 := [(8, .int (Int32.ofNat k)), (6, .long b), (4, .long a), (0, .ref 69), (1, .int (Int32.ofNat tn)), (2, .long ch)]) (st1 := [.int (((Int32.ofNat tn) * ((Int16.ofInt 8192).toInt32)) + (Int32.ofNat k)), .ref na_hash]) (hp1 := hp) 5 (fun _ _ _ _ => rfl) ?_
  rw [nm_emp_idx tn k htn hk]
  refine px_q_iald (len := 1) (t := nr_hash) (n := 24576) (f := f) rfl hh rfl (nm_inR _ _ (by omega) (by decide)) ?_
  rw [nm_ofNat_clamp (tn * 8192 + k) (by omega)]
  refine px_q_if (len := 3) (c := .lt) (off := 76) (bb := false) rfl (by rw [he]; simp only [px_cmp, decide_eq_false_iff_not, Int32.lt_iff_toInt_lt, nm_ofNat_toInt e (by omega), Int32.toInt_zero]; omega) ?_
  refine px_Z_its (pc1 := 43) (lv1 := [(8, .int (Int32.ofNat k)), (6, .long b), (4, .long a), (0, .ref 69), (1, .int (Int32.ofNat tn)), (2, .long ch)]) (st1 := [.ref 69, .int ((Int32.ofNat tn) * ((Int16.ofInt 3001).toInt32))]) (hp1 := hp) 4 (fun _ _ _ _ => rfl) ?_
  refine px_q_get (len := 3) (idx := 260) (ci := 9) (k := 44) (fl := 3) (fs := vs) (v := .ref na_hash) rfl rfl h69 (hrf 44 na_hash rfl) ?_
  refine px_Z_its (pc1 := 54) (lv1 := [(8, .int (Int32.ofNat k)), (6, .long b), (4, .long a), (0, .ref 69), (1, .int (Int32.ofNat tn)), (2, .long ch)]) (st1 := [.int (((Int32.ofNat tn) * ((Int16.ofInt 8192).toInt32)) + (Int32.ofNat k)), .ref na_hash, .int ((Int32.ofNat tn) * ((Int16.ofInt 3001).toInt32))]) (hp1 := hp) 5 (fun _ _ _ _ => rfl) ?_
  rw [nm_emp_idx tn k htn hk]
  refine px_q_iald (len := 1) (t := nr_hash) (n := 24576) (f := f) rfl hh rfl (nm_inR _ _ (by omega) (by decide)) ?_
  rw [nm_ofNat_clamp (tn * 8192 + k) (by omega), he]
  refine px_Z_its (pc1 := 56) (lv1 := [(8, .int (Int32.ofNat k)), (6, .long b), (4, .long a), (0, .ref 69), (1, .int (Int32.ofNat tn)), (2, .long ch)]) (st1 := [.int (((Int32.ofNat tn) * ((Int16.ofInt 3001).toInt32)) + (Int32.ofNat e))]) (hp1 := hp) 1 (fun _ _ _ _ => rfl) ?_
  rw [nm_th_idx tn e]
  refine px_Z_its (pc1 := 59) (lv1 := [(9, .int (Int32.ofNat (tn * 3001 + e))), (8, .int (Int32.ofNat k)), (6, .long b), (4, .long a), (0, .ref 69), (1, .int (Int32.ofNat tn)), (2, .long ch)]) (st1 := [.ref 69]) (hp1 := hp) 2 (fun _ _ _ _ => rfl) ?_
  refine px_q_get (len := 3) (idx := 273) (ci := 9) (k := 40) (fl := 3) (fs := vs) (v := .ref na_one) rfl rfl h69 (hrf 40 na_one rfl) ?_
  refine px_Z_its (pc1 := 64) (lv1 := [(9, .int (Int32.ofNat (tn * 3001 + e))), (8, .int (Int32.ofNat k)), (6, .long b), (4, .long a), (0, .ref 69), (1, .int (Int32.ofNat tn)), (2, .long ch)]) (st1 := [.int (Int32.ofNat (tn * 3001 + e)), .ref na_one]) (hp1 := hp) 1 (fun _ _ _ _ => rfl) ?_
  refine px_q_lald (len := 1) (t := nr_one) (n := 9003) (f := o1) rfl h1 rfl (nm_inR _ _ (by omega) (by decide)) ?_
  rw [nm_ofNat_clamp (tn * 3001 + e) (by omega)]
  refine px_Z_its (pc1 := 67) (lv1 := [(9, .int (Int32.ofNat (tn * 3001 + e))), (8, .int (Int32.ofNat k)), (6, .long b), (4, .long a), (0, .ref 69), (1, .int (Int32.ofNat tn)), (2, .long ch)]) (st1 := [.long a, .long (o1 (tn * 3001 + e))]) (hp1 := hp) 1 (fun _ _ _ _ => rfl) ?_
  refine px_q_lif (len := 1) (c := .ne) (off := 29) (bb := true) rfl rfl (by rw [px_lne]; exact decide_eq_true hne) ?_
  refine px_Z_its (pc1 := 105) (lv1 := [(9, .int (Int32.ofNat (tn * 3001 + e))), (8, .int (Int32.ofNat k)), (6, .long b), (4, .long a), (0, .ref 69), (1, .int (Int32.ofNat tn)), (2, .long ch)]) (st1 := [.int (((Int32.ofNat k) + (Int32.ofInt 1)) &&& ((Int16.ofInt 8191).toInt32))]) (hp1 := hp) 5 (fun _ _ _ _ => rfl) ?_
  rw [nm_next8 k hk]
  refine px_Z_its (pc1 := 21) (lv1 := [(8, .int (Int32.ofNat ((k + 1) % 8192))), (9, .int (Int32.ofNat (tn * 3001 + e))), (6, .long b), (4, .long a), (0, .ref 69), (1, .int (Int32.ofNat tn)), (2, .long ch)]) (st1 := []) (hp1 := hp) 2 (fun _ _ _ _ => rfl) ?_
  exact hR
set_option maxRecDepth 100000 in
theorem nm_adds_b0 {hp : px_H} {vs : List Value} {f g : Nat → Int32} {o1 o2 pt : Nat → Int64} {tn k : Nat} {a b ch : Int64} {r : Option Value} {hp' : px_H} (h69 : hp[69]? = some (.inr (9, vs))) (hrf : ∀ (k d : Nat), ac_f1 nm_GH 9 k 69 = some (2, 0, 0, [d]) → vs[k]? = some (.ref d))
    (hh : hp[na_hash]? = some (.inl (nr_hash, 24576, .inl f))) (hs : hp[na_size]? = some (.inl (nr_size, 3, .inl g))) (h1 : hp[na_one]? = some (.inl (nr_one, 9003, .inr (.inl o1)))) (h2 : hp[na_other]? = some (.inl (nr_other, 9003, .inr (.inl o2)))) (hq : hp[na_part]? = some (.inl (nr_part, 9003, .inr (.inl pt)))) (htn : tn ≤ 2) (hk : k < 8192)
    {e : Nat} (he : f (tn * 8192 + k) = Int32.ofNat e) (he9 : e < 3000) (heq : o1 (tn * 3001 + e) = a) (hne : o2 (tn * 3001 + e) ≠ b)
    (hR : px_Z nm_T none nm_P mm_M_adds 21 [(8, .int (Int32.ofNat ((k + 1) % 8192))), (9, .int (Int32.ofNat (tn * 3001 + e))), (6, .long b), (4, .long a), (0, .ref 69), (1, .int (Int32.ofNat tn)), (2, .long ch)] [] hp r hp') : px_Z nm_T none nm_P mm_M_adds 21 [(8, .int (Int32.ofNat k)), (6, .long b), (4, .long a), (0, .ref 69), (1, .int (Int32.ofNat tn)), (2, .long ch)] [] hp r hp' := by
  refine px_Z_its (pc1 := 22) (lv1 := [(8, .int (Int32.ofNat k)), (6, .long b), (4, .long a), (0, .ref 69), (1, .int (Int32.ofNat tn)), (2, .long ch)]) (st1 := [.ref 69]) (hp1 := hp) 1 (fun _ _ _ _ => rfl) ?_
  refine px_q_get (len := 3) (idx := 260) (ci := 9) (k := 44) (fl := 3) (fs := vs) (v := .ref na_hash) rfl rfl h69 (hrf 44 na_hash rfl) ?_
  refine px_Z_its (pc1 := 33) (lv1 := [(8, .int (Int32.ofNat k)), (6, .long b), (4, .long a), (0, .ref 69), (1, .int (Int32.ofNat tn)), (2, .long ch)]) (st1 := [.int (((Int32.ofNat tn) * ((Int16.ofInt 8192).toInt32)) + (Int32.ofNat k)), .ref na_hash]) (hp1 := hp) 5 (fun _ _ _ _ => rfl) ?_
  rw [nm_emp_idx tn k htn hk]
  refine px_q_iald (len := 1) (t := nr_hash) (n := 24576) (f := f) rfl hh rfl (nm_inR _ _ (by omega) (by decide)) ?_
  rw [nm_ofNat_clamp (tn * 8192 + k) (by omega)]
  refine px_q_if (len := 3) (c := .lt) (off := 76) (bb := false) rfl (by rw [he]; simp only [px_cmp, decide_eq_false_iff_not, Int32.lt_iff_toInt_lt, nm_ofNat_toInt e (by omega), Int32.toInt_zero]; omega) ?_
  refine px_Z_its (pc1 := 43) (lv1 := [(8, .int (Int32.ofNat k)), (6, .long b), (4, .long a), (0, .ref 69), (1, .int (Int32.ofNat tn)), (2, .long ch)]) (st1 := [.ref 69, .int ((Int32.ofNat tn) * ((Int16.ofInt 3001).toInt32))]) (hp1 := hp) 4 (fun _ _ _ _ => rfl) ?_
  refine px_q_get (len := 3) (idx := 260) (ci := 9) (k := 44) (fl := 3) (fs := vs) (v := .ref na_hash) rfl rfl h69 (hrf 44 na_hash rfl) ?_
  refine px_Z_its (pc1 := 54) (lv1 := [(8, .int (Int32.ofNat k)), (6, .long b), (4, .long a), (0, .ref 69), (1, .int (Int32.ofNat tn)), (2, .long ch)]) (st1 := [.int (((Int32.ofNat tn) * ((Int16.ofInt 8192).toInt32)) + (Int32.ofNat k)), .ref na_hash, .int ((Int32.ofNat tn) * ((Int16.ofInt 3001).toInt32))]) (hp1 := hp) 5 (fun _ _ _ _ => rfl) ?_
  rw [nm_emp_idx tn k htn hk]
  refine px_q_iald (len := 1) (t := nr_hash) (n := 24576) (f := f) rfl hh rfl (nm_inR _ _ (by omega) (by decide)) ?_
  rw [nm_ofNat_clamp (tn * 8192 + k) (by omega), he]
  refine px_Z_its (pc1 := 56) (lv1 := [(8, .int (Int32.ofNat k)), (6, .long b), (4, .long a), (0, .ref 69), (1, .int (Int32.ofNat tn)), (2, .long ch)]) (st1 := [.int (((Int32.ofNat tn) * ((Int16.ofInt 3001).toInt32)) + (Int32.ofNat e))]) (hp1 := hp) 1 (fun _ _ _ _ => rfl) ?_
  rw [nm_th_idx tn e]
  refine px_Z_its (pc1 := 59) (lv1 := [(9, .int (Int32.ofNat (tn * 3001 + e))), (8, .int (Int32.ofNat k)), (6, .long b), (4, .long a), (0, .ref 69), (1, .int (Int32.ofNat tn)), (2, .long ch)]) (st1 := [.ref 69]) (hp1 := hp) 2 (fun _ _ _ _ => rfl) ?_
  refine px_q_get (len := 3) (idx := 273) (ci := 9) (k := 40) (fl := 3) (fs := vs) (v := .ref na_one) rfl rfl h69 (hrf 40 na_one rfl) ?_
  refine px_Z_its (pc1 := 64) (lv1 := [(9, .int (Int32.ofNat (tn * 3001 + e))), (8, .int (Int32.ofNat k)), (6, .long b), (4, .long a), (0, .ref 69), (1, .int (Int32.ofNat tn)), (2, .long ch)]) (st1 := [.int (Int32.ofNat (tn * 3001 + e)), .ref na_one]) (hp1 := hp) 1 (fun _ _ _ _ => rfl) ?_
  refine px_q_lald (len := 1) (t := nr_one) (n := 9003) (f := o1) rfl h1 rfl (nm_inR _ _ (by omega) (by decide)) ?_
  rw [nm_ofNat_clamp (tn * 3001 + e) (by omega)]
  refine px_Z_its (pc1 := 67) (lv1 := [(9, .int (Int32.ofNat (tn * 3001 + e))), (8, .int (Int32.ofNat k)), (6, .long b), (4, .long a), (0, .ref 69), (1, .int (Int32.ofNat tn)), (2, .long ch)]) (st1 := [.long a, .long (o1 (tn * 3001 + e))]) (hp1 := hp) 1 (fun _ _ _ _ => rfl) ?_
  refine px_q_lif (len := 1) (c := .ne) (off := 29) (bb := false) rfl rfl (by rw [px_lne]; exact decide_eq_false (fun h => h heq)) ?_
  refine px_Z_its (pc1 := 72) (lv1 := [(9, .int (Int32.ofNat (tn * 3001 + e))), (8, .int (Int32.ofNat k)), (6, .long b), (4, .long a), (0, .ref 69), (1, .int (Int32.ofNat tn)), (2, .long ch)]) (st1 := [.ref 69]) (hp1 := hp) 1 (fun _ _ _ _ => rfl) ?_
  refine px_q_get (len := 3) (idx := 276) (ci := 9) (k := 41) (fl := 3) (fs := vs) (v := .ref na_other) rfl rfl h69 (hrf 41 na_other rfl) ?_
  refine px_Z_its (pc1 := 77) (lv1 := [(9, .int (Int32.ofNat (tn * 3001 + e))), (8, .int (Int32.ofNat k)), (6, .long b), (4, .long a), (0, .ref 69), (1, .int (Int32.ofNat tn)), (2, .long ch)]) (st1 := [.int (Int32.ofNat (tn * 3001 + e)), .ref na_other]) (hp1 := hp) 1 (fun _ _ _ _ => rfl) ?_
  refine px_q_lald (len := 1) (t := nr_other) (n := 9003) (f := o2) rfl h2 rfl (nm_inR _ _ (by omega) (by decide)) ?_
  rw [nm_ofNat_clamp (tn * 3001 + e) (by omega)]
  refine px_Z_its (pc1 := 80) (lv1 := [(9, .int (Int32.ofNat (tn * 3001 + e))), (8, .int (Int32.ofNat k)), (6, .long b), (4, .long a), (0, .ref 69), (1, .int (Int32.ofNat tn)), (2, .long ch)]) (st1 := [.long b, .long (o2 (tn * 3001 + e))]) (hp1 := hp) 1 (fun _ _ _ _ => rfl) ?_
  refine px_q_lif (len := 1) (c := .ne) (off := 16) (bb := true) rfl rfl (by rw [px_lne]; exact decide_eq_true hne) ?_
  refine px_Z_its (pc1 := 105) (lv1 := [(9, .int (Int32.ofNat (tn * 3001 + e))), (8, .int (Int32.ofNat k)), (6, .long b), (4, .long a), (0, .ref 69), (1, .int (Int32.ofNat tn)), (2, .long ch)]) (st1 := [.int (((Int32.ofNat k) + (Int32.ofInt 1)) &&& ((Int16.ofInt 8191).toInt32))]) (hp1 := hp) 5 (fun _ _ _ _ => rfl) ?_
  rw [nm_next8 k hk]
  refine px_Z_its (pc1 := 21) (lv1 := [(8, .int (Int32.ofNat ((k + 1) % 8192))), (9, .int (Int32.ofNat (tn * 3001 + e))), (6, .long b), (4, .long a), (0, .ref 69), (1, .int (Int32.ofNat tn)), (2, .long ch)]) (st1 := []) (hp1 := hp) 2 (fun _ _ _ _ => rfl) ?_
  exact hR
set_option maxRecDepth 100000 in
theorem nm_adds_f0 {hp : px_H} {vs : List Value} {f g : Nat → Int32} {o1 o2 pt : Nat → Int64} {tn k : Nat} {a b ch : Int64} (h69 : hp[69]? = some (.inr (9, vs))) (hrf : ∀ (k d : Nat), ac_f1 nm_GH 9 k 69 = some (2, 0, 0, [d]) → vs[k]? = some (.ref d))
    (hh : hp[na_hash]? = some (.inl (nr_hash, 24576, .inl f))) (hs : hp[na_size]? = some (.inl (nr_size, 3, .inl g))) (h1 : hp[na_one]? = some (.inl (nr_one, 9003, .inr (.inl o1)))) (h2 : hp[na_other]? = some (.inl (nr_other, 9003, .inr (.inl o2)))) (hq : hp[na_part]? = some (.inl (nr_part, 9003, .inr (.inl pt)))) (htn : tn ≤ 2) (hk : k < 8192)
    {e : Nat} (he : f (tn * 8192 + k) = Int32.ofNat e) (he9 : e < 3000) (heq : o1 (tn * 3001 + e) = a) (heq2 : o2 (tn * 3001 + e) = b) : px_Z nm_T none nm_P mm_M_adds 21 [(8, .int (Int32.ofNat k)), (6, .long b), (4, .long a), (0, .ref 69), (1, .int (Int32.ofNat tn)), (2, .long ch)] [] hp (some (.int (Int32.ofInt 1))) (hp.set na_part (.inl (nr_part, 9003, .inr (.inl (vp_updL pt (tn * 3001 + e) ((pt (tn * 3001 + e)) + ch)))))) := by
  refine px_Z_its (pc1 := 22) (lv1 := [(8, .int (Int32.ofNat k)), (6, .long b), (4, .long a), (0, .ref 69), (1, .int (Int32.ofNat tn)), (2, .long ch)]) (st1 := [.ref 69]) (hp1 := hp) 1 (fun _ _ _ _ => rfl) ?_
  refine px_q_get (len := 3) (idx := 260) (ci := 9) (k := 44) (fl := 3) (fs := vs) (v := .ref na_hash) rfl rfl h69 (hrf 44 na_hash rfl) ?_
  refine px_Z_its (pc1 := 33) (lv1 := [(8, .int (Int32.ofNat k)), (6, .long b), (4, .long a), (0, .ref 69), (1, .int (Int32.ofNat tn)), (2, .long ch)]) (st1 := [.int (((Int32.ofNat tn) * ((Int16.ofInt 8192).toInt32)) + (Int32.ofNat k)), .ref na_hash]) (hp1 := hp) 5 (fun _ _ _ _ => rfl) ?_
  rw [nm_emp_idx tn k htn hk]
  refine px_q_iald (len := 1) (t := nr_hash) (n := 24576) (f := f) rfl hh rfl (nm_inR _ _ (by omega) (by decide)) ?_
  rw [nm_ofNat_clamp (tn * 8192 + k) (by omega)]
  refine px_q_if (len := 3) (c := .lt) (off := 76) (bb := false) rfl (by rw [he]; simp only [px_cmp, decide_eq_false_iff_not, Int32.lt_iff_toInt_lt, nm_ofNat_toInt e (by omega), Int32.toInt_zero]; omega) ?_
  refine px_Z_its (pc1 := 43) (lv1 := [(8, .int (Int32.ofNat k)), (6, .long b), (4, .long a), (0, .ref 69), (1, .int (Int32.ofNat tn)), (2, .long ch)]) (st1 := [.ref 69, .int ((Int32.ofNat tn) * ((Int16.ofInt 3001).toInt32))]) (hp1 := hp) 4 (fun _ _ _ _ => rfl) ?_
  refine px_q_get (len := 3) (idx := 260) (ci := 9) (k := 44) (fl := 3) (fs := vs) (v := .ref na_hash) rfl rfl h69 (hrf 44 na_hash rfl) ?_
  refine px_Z_its (pc1 := 54) (lv1 := [(8, .int (Int32.ofNat k)), (6, .long b), (4, .long a), (0, .ref 69), (1, .int (Int32.ofNat tn)), (2, .long ch)]) (st1 := [.int (((Int32.ofNat tn) * ((Int16.ofInt 8192).toInt32)) + (Int32.ofNat k)), .ref na_hash, .int ((Int32.ofNat tn) * ((Int16.ofInt 3001).toInt32))]) (hp1 := hp) 5 (fun _ _ _ _ => rfl) ?_
  rw [nm_emp_idx tn k htn hk]
  refine px_q_iald (len := 1) (t := nr_hash) (n := 24576) (f := f) rfl hh rfl (nm_inR _ _ (by omega) (by decide)) ?_
  rw [nm_ofNat_clamp (tn * 8192 + k) (by omega), he]
  refine px_Z_its (pc1 := 56) (lv1 := [(8, .int (Int32.ofNat k)), (6, .long b), (4, .long a), (0, .ref 69), (1, .int (Int32.ofNat tn)), (2, .long ch)]) (st1 := [.int (((Int32.ofNat tn) * ((Int16.ofInt 3001).toInt32)) + (Int32.ofNat e))]) (hp1 := hp) 1 (fun _ _ _ _ => rfl) ?_
  rw [nm_th_idx tn e]
  refine px_Z_its (pc1 := 59) (lv1 := [(9, .int (Int32.ofNat (tn * 3001 + e))), (8, .int (Int32.ofNat k)), (6, .long b), (4, .long a), (0, .ref 69), (1, .int (Int32.ofNat tn)), (2, .long ch)]) (st1 := [.ref 69]) (hp1 := hp) 2 (fun _ _ _ _ => rfl) ?_
  refine px_q_get (len := 3) (idx := 273) (ci := 9) (k := 40) (fl := 3) (fs := vs) (v := .ref na_one) rfl rfl h69 (hrf 40 na_one rfl) ?_
  refine px_Z_its (pc1 := 64) (lv1 := [(9, .int (Int32.ofNat (tn * 3001 + e))), (8, .int (Int32.ofNat k)), (6, .long b), (4, .long a), (0, .ref 69), (1, .int (Int32.ofNat tn)), (2, .long ch)]) (st1 := [.int (Int32.ofNat (tn * 3001 + e)), .ref na_one]) (hp1 := hp) 1 (fun _ _ _ _ => rfl) ?_
  refine px_q_lald (len := 1) (t := nr_one) (n := 9003) (f := o1) rfl h1 rfl (nm_inR _ _ (by omega) (by decide)) ?_
  rw [nm_ofNat_clamp (tn * 3001 + e) (by omega)]
  refine px_Z_its (pc1 := 67) (lv1 := [(9, .int (Int32.ofNat (tn * 3001 + e))), (8, .int (Int32.ofNat k)), (6, .long b), (4, .long a), (0, .ref 69), (1, .int (Int32.ofNat tn)), (2, .long ch)]) (st1 := [.long a, .long (o1 (tn * 3001 + e))]) (hp1 := hp) 1 (fun _ _ _ _ => rfl) ?_
  refine px_q_lif (len := 1) (c := .ne) (off := 29) (bb := false) rfl rfl (by rw [px_lne]; exact decide_eq_false (fun h => h heq)) ?_
  refine px_Z_its (pc1 := 72) (lv1 := [(9, .int (Int32.ofNat (tn * 3001 + e))), (8, .int (Int32.ofNat k)), (6, .long b), (4, .long a), (0, .ref 69), (1, .int (Int32.ofNat tn)), (2, .long ch)]) (st1 := [.ref 69]) (hp1 := hp) 1 (fun _ _ _ _ => rfl) ?_
  refine px_q_get (len := 3) (idx := 276) (ci := 9) (k := 41) (fl := 3) (fs := vs) (v := .ref na_other) rfl rfl h69 (hrf 41 na_other rfl) ?_
  refine px_Z_its (pc1 := 77) (lv1 := [(9, .int (Int32.ofNat (tn * 3001 + e))), (8, .int (Int32.ofNat k)), (6, .long b), (4, .long a), (0, .ref 69), (1, .int (Int32.ofNat tn)), (2, .long ch)]) (st1 := [.int (Int32.ofNat (tn * 3001 + e)), .ref na_other]) (hp1 := hp) 1 (fun _ _ _ _ => rfl) ?_
  refine px_q_lald (len := 1) (t := nr_other) (n := 9003) (f := o2) rfl h2 rfl (nm_inR _ _ (by omega) (by decide)) ?_
  rw [nm_ofNat_clamp (tn * 3001 + e) (by omega)]
  refine px_Z_its (pc1 := 80) (lv1 := [(9, .int (Int32.ofNat (tn * 3001 + e))), (8, .int (Int32.ofNat k)), (6, .long b), (4, .long a), (0, .ref 69), (1, .int (Int32.ofNat tn)), (2, .long ch)]) (st1 := [.long b, .long (o2 (tn * 3001 + e))]) (hp1 := hp) 1 (fun _ _ _ _ => rfl) ?_
  refine px_q_lif (len := 1) (c := .ne) (off := 16) (bb := false) rfl rfl (by rw [px_lne]; exact decide_eq_false (fun h => h heq2)) ?_
  refine px_Z_its (pc1 := 85) (lv1 := [(9, .int (Int32.ofNat (tn * 3001 + e))), (8, .int (Int32.ofNat k)), (6, .long b), (4, .long a), (0, .ref 69), (1, .int (Int32.ofNat tn)), (2, .long ch)]) (st1 := [.ref 69]) (hp1 := hp) 1 (fun _ _ _ _ => rfl) ?_
  refine px_q_get (len := 3) (idx := 279) (ci := 9) (k := 42) (fl := 3) (fs := vs) (v := .ref na_part) rfl rfl h69 (hrf 42 na_part rfl) ?_
  refine px_Z_its (pc1 := 91) (lv1 := [(9, .int (Int32.ofNat (tn * 3001 + e))), (8, .int (Int32.ofNat k)), (6, .long b), (4, .long a), (0, .ref 69), (1, .int (Int32.ofNat tn)), (2, .long ch)]) (st1 := [.int (Int32.ofNat (tn * 3001 + e)), .ref na_part, .int (Int32.ofNat (tn * 3001 + e)), .ref na_part]) (hp1 := hp) 2 (fun _ _ _ _ => rfl) ?_
  refine px_q_lald (len := 1) (t := nr_part) (n := 9003) (f := pt) rfl hq rfl (nm_inR _ _ (by omega) (by decide)) ?_
  rw [nm_ofNat_clamp (tn * 3001 + e) (by omega)]
  refine px_Z_its (pc1 := 94) (lv1 := [(9, .int (Int32.ofNat (tn * 3001 + e))), (8, .int (Int32.ofNat k)), (6, .long b), (4, .long a), (0, .ref 69), (1, .int (Int32.ofNat tn)), (2, .long ch)]) (st1 := [.long ((pt (tn * 3001 + e)) + ch), .int (Int32.ofNat (tn * 3001 + e)), .ref na_part]) (hp1 := hp) 2 (fun _ _ _ _ => rfl) ?_
  refine px_q_last (len := 1) (t := nr_part) (n := 9003) (f := pt) rfl hq rfl (nm_inR _ _ (by omega) (by decide)) ?_
  rw [nm_ofNat_clamp (tn * 3001 + e) (by omega)]
  refine px_Z_its (pc1 := 96) (lv1 := [(9, .int (Int32.ofNat (tn * 3001 + e))), (8, .int (Int32.ofNat k)), (6, .long b), (4, .long a), (0, .ref 69), (1, .int (Int32.ofNat tn)), (2, .long ch)]) (st1 := [.int (Int32.ofInt 1)]) (hp1 := (hp.set na_part (.inl (nr_part, 9003, .inr (.inl (vp_updL pt (tn * 3001 + e) ((pt (tn * 3001 + e)) + ch))))))) 1 (fun _ _ _ _ => rfl) ?_
  exact px_q_iret (len := 1) (ty := .boolean) rfl rfl rfl
set_option maxRecDepth 100000 in
theorem nm_adds_u0 {hp : px_H} {vs : List Value} {f g : Nat → Int32} {o1 o2 pt : Nat → Int64} {tn k : Nat} {a b ch : Int64} (h69 : hp[69]? = some (.inr (9, vs))) (hrf : ∀ (k d : Nat), ac_f1 nm_GH 9 k 69 = some (2, 0, 0, [d]) → vs[k]? = some (.ref d))
    (hh : hp[na_hash]? = some (.inl (nr_hash, 24576, .inl f))) (hs : hp[na_size]? = some (.inl (nr_size, 3, .inl g))) (h1 : hp[na_one]? = some (.inl (nr_one, 9003, .inr (.inl o1)))) (h2 : hp[na_other]? = some (.inl (nr_other, 9003, .inr (.inl o2)))) (hq : hp[na_part]? = some (.inl (nr_part, 9003, .inr (.inl pt)))) (htn : tn ≤ 2) (hk : k < 8192)
    (hlt : (f (tn * 8192 + k)).toInt < 0) (hfull : g tn = Int32.ofNat 3000) : px_Z nm_T none nm_P mm_M_adds 21 [(8, .int (Int32.ofNat k)), (6, .long b), (4, .long a), (0, .ref 69), (1, .int (Int32.ofNat tn)), (2, .long ch)] [] hp (some (.int (Int32.ofInt 0))) hp := by
  refine px_Z_its (pc1 := 22) (lv1 := [(8, .int (Int32.ofNat k)), (6, .long b), (4, .long a), (0, .ref 69), (1, .int (Int32.ofNat tn)), (2, .long ch)]) (st1 := [.ref 69]) (hp1 := hp) 1 (fun _ _ _ _ => rfl) ?_
  refine px_q_get (len := 3) (idx := 260) (ci := 9) (k := 44) (fl := 3) (fs := vs) (v := .ref na_hash) rfl rfl h69 (hrf 44 na_hash rfl) ?_
  refine px_Z_its (pc1 := 33) (lv1 := [(8, .int (Int32.ofNat k)), (6, .long b), (4, .long a), (0, .ref 69), (1, .int (Int32.ofNat tn)), (2, .long ch)]) (st1 := [.int (((Int32.ofNat tn) * ((Int16.ofInt 8192).toInt32)) + (Int32.ofNat k)), .ref na_hash]) (hp1 := hp) 5 (fun _ _ _ _ => rfl) ?_
  rw [nm_emp_idx tn k htn hk]
  refine px_q_iald (len := 1) (t := nr_hash) (n := 24576) (f := f) rfl hh rfl (nm_inR _ _ (by omega) (by decide)) ?_
  rw [nm_ofNat_clamp (tn * 8192 + k) (by omega)]
  refine px_q_if (len := 3) (c := .lt) (off := 76) (bb := true) rfl (by simp only [px_cmp, decide_eq_true_eq, Int32.lt_iff_toInt_lt, Int32.toInt_zero]; exact hlt) ?_
  refine px_Z_its (pc1 := 111) (lv1 := [(8, .int (Int32.ofNat k)), (6, .long b), (4, .long a), (0, .ref 69), (1, .int (Int32.ofNat tn)), (2, .long ch)]) (st1 := [.ref 69]) (hp1 := hp) 1 (fun _ _ _ _ => rfl) ?_
  refine px_q_get (len := 3) (idx := 257) (ci := 9) (k := 43) (fl := 3) (fs := vs) (v := .ref na_size) rfl rfl h69 (hrf 43 na_size rfl) ?_
  refine px_Z_its (pc1 := 115) (lv1 := [(8, .int (Int32.ofNat k)), (6, .long b), (4, .long a), (0, .ref 69), (1, .int (Int32.ofNat tn)), (2, .long ch)]) (st1 := [.int (Int32.ofNat tn), .ref na_size]) (hp1 := hp) 1 (fun _ _ _ _ => rfl) ?_
  refine px_q_iald (len := 1) (t := nr_size) (n := 3) (f := g) rfl hs rfl (nm_inR _ _ (by omega) (by decide)) ?_
  rw [nm_ofNat_clamp tn (by omega), hfull]
  refine px_Z_its (pc1 := 119) (lv1 := [(8, .int (Int32.ofNat k)), (6, .long b), (4, .long a), (0, .ref 69), (1, .int (Int32.ofNat tn)), (2, .long ch)]) (st1 := [.int (Int16.ofInt 3000).toInt32, .int (Int32.ofNat 3000)]) (hp1 := hp) 1 (fun _ _ _ _ => rfl) ?_
  refine px_q_icmp (len := 3) (c := .ne) (off := 5) (bb := false) rfl (by decide) ?_
  refine px_Z_its (pc1 := 123) (lv1 := [(8, .int (Int32.ofNat k)), (6, .long b), (4, .long a), (0, .ref 69), (1, .int (Int32.ofNat tn)), (2, .long ch)]) (st1 := [.int (Int32.ofInt 0)]) (hp1 := hp) 1 (fun _ _ _ _ => rfl) ?_
  exact px_q_iret (len := 1) (ty := .boolean) rfl rfl rfl
set_option maxRecDepth 100000 in
theorem nm_adds_n0 {hp : px_H} {vs : List Value} {f g : Nat → Int32} {o1 o2 pt : Nat → Int64} {tn k : Nat} {a b ch : Int64} (h69 : hp[69]? = some (.inr (9, vs))) (hrf : ∀ (k d : Nat), ac_f1 nm_GH 9 k 69 = some (2, 0, 0, [d]) → vs[k]? = some (.ref d))
    (hh : hp[na_hash]? = some (.inl (nr_hash, 24576, .inl f))) (hs : hp[na_size]? = some (.inl (nr_size, 3, .inl g))) (h1 : hp[na_one]? = some (.inl (nr_one, 9003, .inr (.inl o1)))) (h2 : hp[na_other]? = some (.inl (nr_other, 9003, .inr (.inl o2)))) (hq : hp[na_part]? = some (.inl (nr_part, 9003, .inr (.inl pt)))) (htn : tn ≤ 2) (hk : k < 8192)
    {e : Nat} (hlt : (f (tn * 8192 + k)).toInt < 0) (hsz : g tn = Int32.ofNat e) (he9 : e < 3000) : px_Z nm_T none nm_P mm_M_adds 21 [(8, .int (Int32.ofNat k)), (6, .long b), (4, .long a), (0, .ref 69), (1, .int (Int32.ofNat tn)), (2, .long ch)] [] hp (some (.int (Int32.ofInt 1))) (((((hp.set na_hash (.inl (nr_hash, 24576, .inl (upd f (tn * 8192 + k) (Int32.ofNat e))))).set na_one (.inl (nr_one, 9003, .inr (.inl (vp_updL o1 (tn * 3001 + e) a))))).set na_other (.inl (nr_other, 9003, .inr (.inl (vp_updL o2 (tn * 3001 + e) b))))).set na_part (.inl (nr_part, 9003, .inr (.inl (vp_updL pt (tn * 3001 + e) ch))))).set na_size (.inl (nr_size, 3, .inl (upd g tn ((Int32.ofNat e) + (Int32.ofInt 1)))))) := by
  refine px_Z_its (pc1 := 22) (lv1 := [(8, .int (Int32.ofNat k)), (6, .long b), (4, .long a), (0, .ref 69), (1, .int (Int32.ofNat tn)), (2, .long ch)]) (st1 := [.ref 69]) (hp1 := hp) 1 (fun _ _ _ _ => rfl) ?_
  refine px_q_get (len := 3) (idx := 260) (ci := 9) (k := 44) (fl := 3) (fs := vs) (v := .ref na_hash) rfl rfl h69 (hrf 44 na_hash rfl) ?_
  refine px_Z_its (pc1 := 33) (lv1 := [(8, .int (Int32.ofNat k)), (6, .long b), (4, .long a), (0, .ref 69), (1, .int (Int32.ofNat tn)), (2, .long ch)]) (st1 := [.int (((Int32.ofNat tn) * ((Int16.ofInt 8192).toInt32)) + (Int32.ofNat k)), .ref na_hash]) (hp1 := hp) 5 (fun _ _ _ _ => rfl) ?_
  rw [nm_emp_idx tn k htn hk]
  refine px_q_iald (len := 1) (t := nr_hash) (n := 24576) (f := f) rfl hh rfl (nm_inR _ _ (by omega) (by decide)) ?_
  rw [nm_ofNat_clamp (tn * 8192 + k) (by omega)]
  refine px_q_if (len := 3) (c := .lt) (off := 76) (bb := true) rfl (by simp only [px_cmp, decide_eq_true_eq, Int32.lt_iff_toInt_lt, Int32.toInt_zero]; exact hlt) ?_
  refine px_Z_its (pc1 := 111) (lv1 := [(8, .int (Int32.ofNat k)), (6, .long b), (4, .long a), (0, .ref 69), (1, .int (Int32.ofNat tn)), (2, .long ch)]) (st1 := [.ref 69]) (hp1 := hp) 1 (fun _ _ _ _ => rfl) ?_
  refine px_q_get (len := 3) (idx := 257) (ci := 9) (k := 43) (fl := 3) (fs := vs) (v := .ref na_size) rfl rfl h69 (hrf 43 na_size rfl) ?_
  refine px_Z_its (pc1 := 115) (lv1 := [(8, .int (Int32.ofNat k)), (6, .long b), (4, .long a), (0, .ref 69), (1, .int (Int32.ofNat tn)), (2, .long ch)]) (st1 := [.int (Int32.ofNat tn), .ref na_size]) (hp1 := hp) 1 (fun _ _ _ _ => rfl) ?_
  refine px_q_iald (len := 1) (t := nr_size) (n := 3) (f := g) rfl hs rfl (nm_inR _ _ (by omega) (by decide)) ?_
  rw [nm_ofNat_clamp tn (by omega), hsz]
  refine px_Z_its (pc1 := 119) (lv1 := [(8, .int (Int32.ofNat k)), (6, .long b), (4, .long a), (0, .ref 69), (1, .int (Int32.ofNat tn)), (2, .long ch)]) (st1 := [.int (Int16.ofInt 3000).toInt32, .int (Int32.ofNat e)]) (hp1 := hp) 1 (fun _ _ _ _ => rfl) ?_
  refine px_q_icmp (len := 3) (c := .ne) (off := 5) (bb := true) rfl (by simp only [px_cmp, decide_eq_true_eq]; intro h; have h9 := congrArg Int32.toInt h; rw [nm_ofNat_toInt e (by omega)] at h9; rw [show (Int16.ofInt 3000).toInt32.toInt = 3000 from by decide] at h9; omega) ?_
  refine px_Z_its (pc1 := 125) (lv1 := [(8, .int (Int32.ofNat k)), (6, .long b), (4, .long a), (0, .ref 69), (1, .int (Int32.ofNat tn)), (2, .long ch)]) (st1 := [.ref 69]) (hp1 := hp) 1 (fun _ _ _ _ => rfl) ?_
  refine px_q_get (len := 3) (idx := 260) (ci := 9) (k := 44) (fl := 3) (fs := vs) (v := .ref na_hash) rfl rfl h69 (hrf 44 na_hash rfl) ?_
  refine px_Z_its (pc1 := 136) (lv1 := [(8, .int (Int32.ofNat k)), (6, .long b), (4, .long a), (0, .ref 69), (1, .int (Int32.ofNat tn)), (2, .long ch)]) (st1 := [.int (((Int32.ofNat tn) * ((Int16.ofInt 8192).toInt32)) + (Int32.ofNat k)), .ref na_hash]) (hp1 := hp) 5 (fun _ _ _ _ => rfl) ?_
  rw [nm_emp_idx tn k htn hk]
  refine px_Z_its (pc1 := 137) (lv1 := [(8, .int (Int32.ofNat k)), (6, .long b), (4, .long a), (0, .ref 69), (1, .int (Int32.ofNat tn)), (2, .long ch)]) (st1 := [.ref 69, .int (Int32.ofNat (tn * 8192 + k)), .ref na_hash]) (hp1 := hp) 1 (fun _ _ _ _ => rfl) ?_
  refine px_q_get (len := 3) (idx := 257) (ci := 9) (k := 43) (fl := 3) (fs := vs) (v := .ref na_size) rfl rfl h69 (hrf 43 na_size rfl) ?_
  refine px_Z_its (pc1 := 141) (lv1 := [(8, .int (Int32.ofNat k)), (6, .long b), (4, .long a), (0, .ref 69), (1, .int (Int32.ofNat tn)), (2, .long ch)]) (st1 := [.int (Int32.ofNat tn), .ref na_size, .int (Int32.ofNat (tn * 8192 + k)), .ref na_hash]) (hp1 := hp) 1 (fun _ _ _ _ => rfl) ?_
  refine px_q_iald (len := 1) (t := nr_size) (n := 3) (f := g) rfl hs rfl (nm_inR _ _ (by omega) (by decide)) ?_
  rw [nm_ofNat_clamp tn (by omega), hsz]
  refine px_q_iast (len := 1) (t := nr_hash) (n := 24576) (f := f) rfl hh rfl (nm_inR _ _ (by omega) (by decide)) ?_
  rw [nm_ofNat_clamp (tn * 8192 + k) (by omega)]
  refine px_Z_its (pc1 := 149) (lv1 := [(8, .int (Int32.ofNat k)), (6, .long b), (4, .long a), (0, .ref 69), (1, .int (Int32.ofNat tn)), (2, .long ch)]) (st1 := [.ref 69, .int ((Int32.ofNat tn) * ((Int16.ofInt 3001).toInt32))]) (hp1 := (hp.set na_hash (.inl (nr_hash, 24576, .inl (upd f (tn * 8192 + k) (Int32.ofNat e)))))) 4 (fun _ _ _ _ => rfl) ?_
  refine px_q_get (len := 3) (idx := 257) (ci := 9) (k := 43) (fl := 3) (fs := vs) (v := .ref na_size) rfl rfl ((List.getElem?_set_ne (by decide)).trans h69) (hrf 43 na_size rfl) ?_
  refine px_Z_its (pc1 := 153) (lv1 := [(8, .int (Int32.ofNat k)), (6, .long b), (4, .long a), (0, .ref 69), (1, .int (Int32.ofNat tn)), (2, .long ch)]) (st1 := [.int (Int32.ofNat tn), .ref na_size, .int ((Int32.ofNat tn) * ((Int16.ofInt 3001).toInt32))]) (hp1 := (hp.set na_hash (.inl (nr_hash, 24576, .inl (upd f (tn * 8192 + k) (Int32.ofNat e)))))) 1 (fun _ _ _ _ => rfl) ?_
  refine px_q_iald (len := 1) (t := nr_size) (n := 3) (f := g) rfl ((List.getElem?_set_ne (by decide)).trans hs) rfl (nm_inR _ _ (by omega) (by decide)) ?_
  rw [nm_ofNat_clamp tn (by omega), hsz]
  refine px_Z_its (pc1 := 155) (lv1 := [(8, .int (Int32.ofNat k)), (6, .long b), (4, .long a), (0, .ref 69), (1, .int (Int32.ofNat tn)), (2, .long ch)]) (st1 := [.int (((Int32.ofNat tn) * ((Int16.ofInt 3001).toInt32)) + (Int32.ofNat e))]) (hp1 := (hp.set na_hash (.inl (nr_hash, 24576, .inl (upd f (tn * 8192 + k) (Int32.ofNat e)))))) 1 (fun _ _ _ _ => rfl) ?_
  rw [nm_th_idx tn e]
  refine px_Z_its (pc1 := 158) (lv1 := [(9, .int (Int32.ofNat (tn * 3001 + e))), (8, .int (Int32.ofNat k)), (6, .long b), (4, .long a), (0, .ref 69), (1, .int (Int32.ofNat tn)), (2, .long ch)]) (st1 := [.ref 69]) (hp1 := (hp.set na_hash (.inl (nr_hash, 24576, .inl (upd f (tn * 8192 + k) (Int32.ofNat e)))))) 2 (fun _ _ _ _ => rfl) ?_
  refine px_q_get (len := 3) (idx := 273) (ci := 9) (k := 40) (fl := 3) (fs := vs) (v := .ref na_one) rfl rfl ((List.getElem?_set_ne (by decide)).trans h69) (hrf 40 na_one rfl) ?_
  refine px_Z_its (pc1 := 165) (lv1 := [(9, .int (Int32.ofNat (tn * 3001 + e))), (8, .int (Int32.ofNat k)), (6, .long b), (4, .long a), (0, .ref 69), (1, .int (Int32.ofNat tn)), (2, .long ch)]) (st1 := [.long a, .int (Int32.ofNat (tn * 3001 + e)), .ref na_one]) (hp1 := (hp.set na_hash (.inl (nr_hash, 24576, .inl (upd f (tn * 8192 + k) (Int32.ofNat e)))))) 2 (fun _ _ _ _ => rfl) ?_
  refine px_q_last (len := 1) (t := nr_one) (n := 9003) (f := o1) rfl ((List.getElem?_set_ne (by decide)).trans h1) rfl (nm_inR _ _ (by omega) (by decide)) ?_
  rw [nm_ofNat_clamp (tn * 3001 + e) (by omega)]
  refine px_Z_its (pc1 := 167) (lv1 := [(9, .int (Int32.ofNat (tn * 3001 + e))), (8, .int (Int32.ofNat k)), (6, .long b), (4, .long a), (0, .ref 69), (1, .int (Int32.ofNat tn)), (2, .long ch)]) (st1 := [.ref 69]) (hp1 := ((hp.set na_hash (.inl (nr_hash, 24576, .inl (upd f (tn * 8192 + k) (Int32.ofNat e))))).set na_one (.inl (nr_one, 9003, .inr (.inl (vp_updL o1 (tn * 3001 + e) a)))))) 1 (fun _ _ _ _ => rfl) ?_
  refine px_q_get (len := 3) (idx := 276) (ci := 9) (k := 41) (fl := 3) (fs := vs) (v := .ref na_other) rfl rfl ((List.getElem?_set_ne (by decide)).trans ((List.getElem?_set_ne (by decide)).trans h69)) (hrf 41 na_other rfl) ?_
  refine px_Z_its (pc1 := 174) (lv1 := [(9, .int (Int32.ofNat (tn * 3001 + e))), (8, .int (Int32.ofNat k)), (6, .long b), (4, .long a), (0, .ref 69), (1, .int (Int32.ofNat tn)), (2, .long ch)]) (st1 := [.long b, .int (Int32.ofNat (tn * 3001 + e)), .ref na_other]) (hp1 := ((hp.set na_hash (.inl (nr_hash, 24576, .inl (upd f (tn * 8192 + k) (Int32.ofNat e))))).set na_one (.inl (nr_one, 9003, .inr (.inl (vp_updL o1 (tn * 3001 + e) a)))))) 2 (fun _ _ _ _ => rfl) ?_
  refine px_q_last (len := 1) (t := nr_other) (n := 9003) (f := o2) rfl ((List.getElem?_set_ne (by decide)).trans ((List.getElem?_set_ne (by decide)).trans h2)) rfl (nm_inR _ _ (by omega) (by decide)) ?_
  rw [nm_ofNat_clamp (tn * 3001 + e) (by omega)]
  refine px_Z_its (pc1 := 176) (lv1 := [(9, .int (Int32.ofNat (tn * 3001 + e))), (8, .int (Int32.ofNat k)), (6, .long b), (4, .long a), (0, .ref 69), (1, .int (Int32.ofNat tn)), (2, .long ch)]) (st1 := [.ref 69]) (hp1 := (((hp.set na_hash (.inl (nr_hash, 24576, .inl (upd f (tn * 8192 + k) (Int32.ofNat e))))).set na_one (.inl (nr_one, 9003, .inr (.inl (vp_updL o1 (tn * 3001 + e) a))))).set na_other (.inl (nr_other, 9003, .inr (.inl (vp_updL o2 (tn * 3001 + e) b)))))) 1 (fun _ _ _ _ => rfl) ?_
  refine px_q_get (len := 3) (idx := 279) (ci := 9) (k := 42) (fl := 3) (fs := vs) (v := .ref na_part) rfl rfl ((List.getElem?_set_ne (by decide)).trans ((List.getElem?_set_ne (by decide)).trans ((List.getElem?_set_ne (by decide)).trans h69))) (hrf 42 na_part rfl) ?_
  refine px_Z_its (pc1 := 182) (lv1 := [(9, .int (Int32.ofNat (tn * 3001 + e))), (8, .int (Int32.ofNat k)), (6, .long b), (4, .long a), (0, .ref 69), (1, .int (Int32.ofNat tn)), (2, .long ch)]) (st1 := [.long ch, .int (Int32.ofNat (tn * 3001 + e)), .ref na_part]) (hp1 := (((hp.set na_hash (.inl (nr_hash, 24576, .inl (upd f (tn * 8192 + k) (Int32.ofNat e))))).set na_one (.inl (nr_one, 9003, .inr (.inl (vp_updL o1 (tn * 3001 + e) a))))).set na_other (.inl (nr_other, 9003, .inr (.inl (vp_updL o2 (tn * 3001 + e) b)))))) 2 (fun _ _ _ _ => rfl) ?_
  refine px_q_last (len := 1) (t := nr_part) (n := 9003) (f := pt) rfl ((List.getElem?_set_ne (by decide)).trans ((List.getElem?_set_ne (by decide)).trans ((List.getElem?_set_ne (by decide)).trans hq))) rfl (nm_inR _ _ (by omega) (by decide)) ?_
  rw [nm_ofNat_clamp (tn * 3001 + e) (by omega)]
  refine px_Z_its (pc1 := 184) (lv1 := [(9, .int (Int32.ofNat (tn * 3001 + e))), (8, .int (Int32.ofNat k)), (6, .long b), (4, .long a), (0, .ref 69), (1, .int (Int32.ofNat tn)), (2, .long ch)]) (st1 := [.ref 69]) (hp1 := ((((hp.set na_hash (.inl (nr_hash, 24576, .inl (upd f (tn * 8192 + k) (Int32.ofNat e))))).set na_one (.inl (nr_one, 9003, .inr (.inl (vp_updL o1 (tn * 3001 + e) a))))).set na_other (.inl (nr_other, 9003, .inr (.inl (vp_updL o2 (tn * 3001 + e) b))))).set na_part (.inl (nr_part, 9003, .inr (.inl (vp_updL pt (tn * 3001 + e) ch)))))) 1 (fun _ _ _ _ => rfl) ?_
  refine px_q_get (len := 3) (idx := 257) (ci := 9) (k := 43) (fl := 3) (fs := vs) (v := .ref na_size) rfl rfl ((List.getElem?_set_ne (by decide)).trans ((List.getElem?_set_ne (by decide)).trans ((List.getElem?_set_ne (by decide)).trans ((List.getElem?_set_ne (by decide)).trans h69)))) (hrf 43 na_size rfl) ?_
  refine px_Z_its (pc1 := 189) (lv1 := [(9, .int (Int32.ofNat (tn * 3001 + e))), (8, .int (Int32.ofNat k)), (6, .long b), (4, .long a), (0, .ref 69), (1, .int (Int32.ofNat tn)), (2, .long ch)]) (st1 := [.int (Int32.ofNat tn), .ref na_size, .int (Int32.ofNat tn), .ref na_size]) (hp1 := ((((hp.set na_hash (.inl (nr_hash, 24576, .inl (upd f (tn * 8192 + k) (Int32.ofNat e))))).set na_one (.inl (nr_one, 9003, .inr (.inl (vp_updL o1 (tn * 3001 + e) a))))).set na_other (.inl (nr_other, 9003, .inr (.inl (vp_updL o2 (tn * 3001 + e) b))))).set na_part (.inl (nr_part, 9003, .inr (.inl (vp_updL pt (tn * 3001 + e) ch)))))) 2 (fun _ _ _ _ => rfl) ?_
  refine px_q_iald (len := 1) (t := nr_size) (n := 3) (f := g) rfl ((List.getElem?_set_ne (by decide)).trans ((List.getElem?_set_ne (by decide)).trans ((List.getElem?_set_ne (by decide)).trans ((List.getElem?_set_ne (by decide)).trans hs)))) rfl (nm_inR _ _ (by omega) (by decide)) ?_
  rw [nm_ofNat_clamp tn (by omega), hsz]
  refine px_Z_its (pc1 := 192) (lv1 := [(9, .int (Int32.ofNat (tn * 3001 + e))), (8, .int (Int32.ofNat k)), (6, .long b), (4, .long a), (0, .ref 69), (1, .int (Int32.ofNat tn)), (2, .long ch)]) (st1 := [.int ((Int32.ofNat e) + (Int32.ofInt 1)), .int (Int32.ofNat tn), .ref na_size]) (hp1 := ((((hp.set na_hash (.inl (nr_hash, 24576, .inl (upd f (tn * 8192 + k) (Int32.ofNat e))))).set na_one (.inl (nr_one, 9003, .inr (.inl (vp_updL o1 (tn * 3001 + e) a))))).set na_other (.inl (nr_other, 9003, .inr (.inl (vp_updL o2 (tn * 3001 + e) b))))).set na_part (.inl (nr_part, 9003, .inr (.inl (vp_updL pt (tn * 3001 + e) ch)))))) 2 (fun _ _ _ _ => rfl) ?_
  refine px_q_iast (len := 1) (t := nr_size) (n := 3) (f := g) rfl ((List.getElem?_set_ne (by decide)).trans ((List.getElem?_set_ne (by decide)).trans ((List.getElem?_set_ne (by decide)).trans ((List.getElem?_set_ne (by decide)).trans hs)))) rfl (nm_inR _ _ (by omega) (by decide)) ?_
  rw [nm_ofNat_clamp tn (by omega)]
  refine px_Z_its (pc1 := 194) (lv1 := [(9, .int (Int32.ofNat (tn * 3001 + e))), (8, .int (Int32.ofNat k)), (6, .long b), (4, .long a), (0, .ref 69), (1, .int (Int32.ofNat tn)), (2, .long ch)]) (st1 := [.int (Int32.ofInt 1)]) (hp1 := (((((hp.set na_hash (.inl (nr_hash, 24576, .inl (upd f (tn * 8192 + k) (Int32.ofNat e))))).set na_one (.inl (nr_one, 9003, .inr (.inl (vp_updL o1 (tn * 3001 + e) a))))).set na_other (.inl (nr_other, 9003, .inr (.inl (vp_updL o2 (tn * 3001 + e) b))))).set na_part (.inl (nr_part, 9003, .inr (.inl (vp_updL pt (tn * 3001 + e) ch))))).set na_size (.inl (nr_size, 3, .inl (upd g tn ((Int32.ofNat e) + (Int32.ofInt 1))))))) 1 (fun _ _ _ _ => rfl) ?_
  exact px_q_iret (len := 1) (ty := .boolean) rfl rfl rfl
set_option maxRecDepth 100000 in
theorem nm_adds_a1 {hp : px_H} {vs : List Value} {f g : Nat → Int32} {o1 o2 pt : Nat → Int64} {tn k : Nat} {a b ch : Int64} {r : Option Value} {hp' : px_H} (h69 : hp[69]? = some (.inr (9, vs))) (hrf : ∀ (k d : Nat), ac_f1 nm_GH 9 k 69 = some (2, 0, 0, [d]) → vs[k]? = some (.ref d))
    (hh : hp[na_hash]? = some (.inl (nr_hash, 24576, .inl f))) (hs : hp[na_size]? = some (.inl (nr_size, 3, .inl g))) (h1 : hp[na_one]? = some (.inl (nr_one, 9003, .inr (.inl o1)))) (h2 : hp[na_other]? = some (.inl (nr_other, 9003, .inr (.inl o2)))) (hq : hp[na_part]? = some (.inl (nr_part, 9003, .inr (.inl pt)))) (htn : tn ≤ 2) (hk : k < 8192)
    {th : Int32} {e : Nat} (he : f (tn * 8192 + k) = Int32.ofNat e) (he9 : e < 3000) (hne : o1 (tn * 3001 + e) ≠ a)
    (hR : px_Z nm_T none nm_P mm_M_adds 21 [(8, .int (Int32.ofNat ((k + 1) % 8192))), (9, .int (Int32.ofNat (tn * 3001 + e))), (6, .long b), (4, .long a), (0, .ref 69), (1, .int (Int32.ofNat tn)), (2, .long ch)] [] hp r hp') : px_Z nm_T none nm_P mm_M_adds 21 [(8, .int (Int32.ofNat k)), (9, .int th), (6, .long b), (4, .long a), (0, .ref 69), (1, .int (Int32.ofNat tn)), (2, .long ch)] [] hp r hp' := by
  refine px_Z_its (pc1 := 22) (lv1 := [(8, .int (Int32.ofNat k)), (9, .int th), (6, .long b), (4, .long a), (0, .ref 69), (1, .int (Int32.ofNat tn)), (2, .long ch)]) (st1 := [.ref 69]) (hp1 := hp) 1 (fun _ _ _ _ => rfl) ?_
  refine px_q_get (len := 3) (idx := 260) (ci := 9) (k := 44) (fl := 3) (fs := vs) (v := .ref na_hash) rfl rfl h69 (hrf 44 na_hash rfl) ?_
  refine px_Z_its (pc1 := 33) (lv1 := [(8, .int (Int32.ofNat k)), (9, .int th), (6, .long b), (4, .long a), (0, .ref 69), (1, .int (Int32.ofNat tn)), (2, .long ch)]) (st1 := [.int (((Int32.ofNat tn) * ((Int16.ofInt 8192).toInt32)) + (Int32.ofNat k)), .ref na_hash]) (hp1 := hp) 5 (fun _ _ _ _ => rfl) ?_
  rw [nm_emp_idx tn k htn hk]
  refine px_q_iald (len := 1) (t := nr_hash) (n := 24576) (f := f) rfl hh rfl (nm_inR _ _ (by omega) (by decide)) ?_
  rw [nm_ofNat_clamp (tn * 8192 + k) (by omega)]
  refine px_q_if (len := 3) (c := .lt) (off := 76) (bb := false) rfl (by rw [he]; simp only [px_cmp, decide_eq_false_iff_not, Int32.lt_iff_toInt_lt, nm_ofNat_toInt e (by omega), Int32.toInt_zero]; omega) ?_
  refine px_Z_its (pc1 := 43) (lv1 := [(8, .int (Int32.ofNat k)), (9, .int th), (6, .long b), (4, .long a), (0, .ref 69), (1, .int (Int32.ofNat tn)), (2, .long ch)]) (st1 := [.ref 69, .int ((Int32.ofNat tn) * ((Int16.ofInt 3001).toInt32))]) (hp1 := hp) 4 (fun _ _ _ _ => rfl) ?_
  refine px_q_get (len := 3) (idx := 260) (ci := 9) (k := 44) (fl := 3) (fs := vs) (v := .ref na_hash) rfl rfl h69 (hrf 44 na_hash rfl) ?_
  refine px_Z_its (pc1 := 54) (lv1 := [(8, .int (Int32.ofNat k)), (9, .int th), (6, .long b), (4, .long a), (0, .ref 69), (1, .int (Int32.ofNat tn)), (2, .long ch)]) (st1 := [.int (((Int32.ofNat tn) * ((Int16.ofInt 8192).toInt32)) + (Int32.ofNat k)), .ref na_hash, .int ((Int32.ofNat tn) * ((Int16.ofInt 3001).toInt32))]) (hp1 := hp) 5 (fun _ _ _ _ => rfl) ?_
  rw [nm_emp_idx tn k htn hk]
  refine px_q_iald (len := 1) (t := nr_hash) (n := 24576) (f := f) rfl hh rfl (nm_inR _ _ (by omega) (by decide)) ?_
  rw [nm_ofNat_clamp (tn * 8192 + k) (by omega), he]
  refine px_Z_its (pc1 := 56) (lv1 := [(8, .int (Int32.ofNat k)), (9, .int th), (6, .long b), (4, .long a), (0, .ref 69), (1, .int (Int32.ofNat tn)), (2, .long ch)]) (st1 := [.int (((Int32.ofNat tn) * ((Int16.ofInt 3001).toInt32)) + (Int32.ofNat e))]) (hp1 := hp) 1 (fun _ _ _ _ => rfl) ?_
  rw [nm_th_idx tn e]
  refine px_Z_its (pc1 := 59) (lv1 := [(9, .int (Int32.ofNat (tn * 3001 + e))), (8, .int (Int32.ofNat k)), (6, .long b), (4, .long a), (0, .ref 69), (1, .int (Int32.ofNat tn)), (2, .long ch)]) (st1 := [.ref 69]) (hp1 := hp) 2 (fun _ _ _ _ => rfl) ?_
  refine px_q_get (len := 3) (idx := 273) (ci := 9) (k := 40) (fl := 3) (fs := vs) (v := .ref na_one) rfl rfl h69 (hrf 40 na_one rfl) ?_
  refine px_Z_its (pc1 := 64) (lv1 := [(9, .int (Int32.ofNat (tn * 3001 + e))), (8, .int (Int32.ofNat k)), (6, .long b), (4, .long a), (0, .ref 69), (1, .int (Int32.ofNat tn)), (2, .long ch)]) (st1 := [.int (Int32.ofNat (tn * 3001 + e)), .ref na_one]) (hp1 := hp) 1 (fun _ _ _ _ => rfl) ?_
  refine px_q_lald (len := 1) (t := nr_one) (n := 9003) (f := o1) rfl h1 rfl (nm_inR _ _ (by omega) (by decide)) ?_
  rw [nm_ofNat_clamp (tn * 3001 + e) (by omega)]
  refine px_Z_its (pc1 := 67) (lv1 := [(9, .int (Int32.ofNat (tn * 3001 + e))), (8, .int (Int32.ofNat k)), (6, .long b), (4, .long a), (0, .ref 69), (1, .int (Int32.ofNat tn)), (2, .long ch)]) (st1 := [.long a, .long (o1 (tn * 3001 + e))]) (hp1 := hp) 1 (fun _ _ _ _ => rfl) ?_
  refine px_q_lif (len := 1) (c := .ne) (off := 29) (bb := true) rfl rfl (by rw [px_lne]; exact decide_eq_true hne) ?_
  refine px_Z_its (pc1 := 105) (lv1 := [(9, .int (Int32.ofNat (tn * 3001 + e))), (8, .int (Int32.ofNat k)), (6, .long b), (4, .long a), (0, .ref 69), (1, .int (Int32.ofNat tn)), (2, .long ch)]) (st1 := [.int (((Int32.ofNat k) + (Int32.ofInt 1)) &&& ((Int16.ofInt 8191).toInt32))]) (hp1 := hp) 5 (fun _ _ _ _ => rfl) ?_
  rw [nm_next8 k hk]
  refine px_Z_its (pc1 := 21) (lv1 := [(8, .int (Int32.ofNat ((k + 1) % 8192))), (9, .int (Int32.ofNat (tn * 3001 + e))), (6, .long b), (4, .long a), (0, .ref 69), (1, .int (Int32.ofNat tn)), (2, .long ch)]) (st1 := []) (hp1 := hp) 2 (fun _ _ _ _ => rfl) ?_
  exact hR
set_option maxRecDepth 100000 in
theorem nm_adds_b1 {hp : px_H} {vs : List Value} {f g : Nat → Int32} {o1 o2 pt : Nat → Int64} {tn k : Nat} {a b ch : Int64} {r : Option Value} {hp' : px_H} (h69 : hp[69]? = some (.inr (9, vs))) (hrf : ∀ (k d : Nat), ac_f1 nm_GH 9 k 69 = some (2, 0, 0, [d]) → vs[k]? = some (.ref d))
    (hh : hp[na_hash]? = some (.inl (nr_hash, 24576, .inl f))) (hs : hp[na_size]? = some (.inl (nr_size, 3, .inl g))) (h1 : hp[na_one]? = some (.inl (nr_one, 9003, .inr (.inl o1)))) (h2 : hp[na_other]? = some (.inl (nr_other, 9003, .inr (.inl o2)))) (hq : hp[na_part]? = some (.inl (nr_part, 9003, .inr (.inl pt)))) (htn : tn ≤ 2) (hk : k < 8192)
    {th : Int32} {e : Nat} (he : f (tn * 8192 + k) = Int32.ofNat e) (he9 : e < 3000) (heq : o1 (tn * 3001 + e) = a) (hne : o2 (tn * 3001 + e) ≠ b)
    (hR : px_Z nm_T none nm_P mm_M_adds 21 [(8, .int (Int32.ofNat ((k + 1) % 8192))), (9, .int (Int32.ofNat (tn * 3001 + e))), (6, .long b), (4, .long a), (0, .ref 69), (1, .int (Int32.ofNat tn)), (2, .long ch)] [] hp r hp') : px_Z nm_T none nm_P mm_M_adds 21 [(8, .int (Int32.ofNat k)), (9, .int th), (6, .long b), (4, .long a), (0, .ref 69), (1, .int (Int32.ofNat tn)), (2, .long ch)] [] hp r hp' := by
  refine px_Z_its (pc1 := 22) (lv1 := [(8, .int (Int32.ofNat k)), (9, .int th), (6, .long b), (4, .long a), (0, .ref 69), (1, .int (Int32.ofNat tn)), (2, .long ch)]) (st1 := [.ref 69]) (hp1 := hp) 1 (fun _ _ _ _ => rfl) ?_
  refine px_q_get (len := 3) (idx := 260) (ci := 9) (k := 44) (fl := 3) (fs := vs) (v := .ref na_hash) rfl rfl h69 (hrf 44 na_hash rfl) ?_
  refine px_Z_its (pc1 := 33) (lv1 := [(8, .int (Int32.ofNat k)), (9, .int th), (6, .long b), (4, .long a), (0, .ref 69), (1, .int (Int32.ofNat tn)), (2, .long ch)]) (st1 := [.int (((Int32.ofNat tn) * ((Int16.ofInt 8192).toInt32)) + (Int32.ofNat k)), .ref na_hash]) (hp1 := hp) 5 (fun _ _ _ _ => rfl) ?_
  rw [nm_emp_idx tn k htn hk]
  refine px_q_iald (len := 1) (t := nr_hash) (n := 24576) (f := f) rfl hh rfl (nm_inR _ _ (by omega) (by decide)) ?_
  rw [nm_ofNat_clamp (tn * 8192 + k) (by omega)]
  refine px_q_if (len := 3) (c := .lt) (off := 76) (bb := false) rfl (by rw [he]; simp only [px_cmp, decide_eq_false_iff_not, Int32.lt_iff_toInt_lt, nm_ofNat_toInt e (by omega), Int32.toInt_zero]; omega) ?_
  refine px_Z_its (pc1 := 43) (lv1 := [(8, .int (Int32.ofNat k)), (9, .int th), (6, .long b), (4, .long a), (0, .ref 69), (1, .int (Int32.ofNat tn)), (2, .long ch)]) (st1 := [.ref 69, .int ((Int32.ofNat tn) * ((Int16.ofInt 3001).toInt32))]) (hp1 := hp) 4 (fun _ _ _ _ => rfl) ?_
  refine px_q_get (len := 3) (idx := 260) (ci := 9) (k := 44) (fl := 3) (fs := vs) (v := .ref na_hash) rfl rfl h69 (hrf 44 na_hash rfl) ?_
  refine px_Z_its (pc1 := 54) (lv1 := [(8, .int (Int32.ofNat k)), (9, .int th), (6, .long b), (4, .long a), (0, .ref 69), (1, .int (Int32.ofNat tn)), (2, .long ch)]) (st1 := [.int (((Int32.ofNat tn) * ((Int16.ofInt 8192).toInt32)) + (Int32.ofNat k)), .ref na_hash, .int ((Int32.ofNat tn) * ((Int16.ofInt 3001).toInt32))]) (hp1 := hp) 5 (fun _ _ _ _ => rfl) ?_
  rw [nm_emp_idx tn k htn hk]
  refine px_q_iald (len := 1) (t := nr_hash) (n := 24576) (f := f) rfl hh rfl (nm_inR _ _ (by omega) (by decide)) ?_
  rw [nm_ofNat_clamp (tn * 8192 + k) (by omega), he]
  refine px_Z_its (pc1 := 56) (lv1 := [(8, .int (Int32.ofNat k)), (9, .int th), (6, .long b), (4, .long a), (0, .ref 69), (1, .int (Int32.ofNat tn)), (2, .long ch)]) (st1 := [.int (((Int32.ofNat tn) * ((Int16.ofInt 3001).toInt32)) + (Int32.ofNat e))]) (hp1 := hp) 1 (fun _ _ _ _ => rfl) ?_
  rw [nm_th_idx tn e]
  refine px_Z_its (pc1 := 59) (lv1 := [(9, .int (Int32.ofNat (tn * 3001 + e))), (8, .int (Int32.ofNat k)), (6, .long b), (4, .long a), (0, .ref 69), (1, .int (Int32.ofNat tn)), (2, .long ch)]) (st1 := [.ref 69]) (hp1 := hp) 2 (fun _ _ _ _ => rfl) ?_
  refine px_q_get (len := 3) (idx := 273) (ci := 9) (k := 40) (fl := 3) (fs := vs) (v := .ref na_one) rfl rfl h69 (hrf 40 na_one rfl) ?_
  refine px_Z_its (pc1 := 64) (lv1 := [(9, .int (Int32.ofNat (tn * 3001 + e))), (8, .int (Int32.ofNat k)), (6, .long b), (4, .long a), (0, .ref 69), (1, .int (Int32.ofNat tn)), (2, .long ch)]) (st1 := [.int (Int32.ofNat (tn * 3001 + e)), .ref na_one]) (hp1 := hp) 1 (fun _ _ _ _ => rfl) ?_
  refine px_q_lald (len := 1) (t := nr_one) (n := 9003) (f := o1) rfl h1 rfl (nm_inR _ _ (by omega) (by decide)) ?_
  rw [nm_ofNat_clamp (tn * 3001 + e) (by omega)]
  refine px_Z_its (pc1 := 67) (lv1 := [(9, .int (Int32.ofNat (tn * 3001 + e))), (8, .int (Int32.ofNat k)), (6, .long b), (4, .long a), (0, .ref 69), (1, .int (Int32.ofNat tn)), (2, .long ch)]) (st1 := [.long a, .long (o1 (tn * 3001 + e))]) (hp1 := hp) 1 (fun _ _ _ _ => rfl) ?_
  refine px_q_lif (len := 1) (c := .ne) (off := 29) (bb := false) rfl rfl (by rw [px_lne]; exact decide_eq_false (fun h => h heq)) ?_
  refine px_Z_its (pc1 := 72) (lv1 := [(9, .int (Int32.ofNat (tn * 3001 + e))), (8, .int (Int32.ofNat k)), (6, .long b), (4, .long a), (0, .ref 69), (1, .int (Int32.ofNat tn)), (2, .long ch)]) (st1 := [.ref 69]) (hp1 := hp) 1 (fun _ _ _ _ => rfl) ?_
  refine px_q_get (len := 3) (idx := 276) (ci := 9) (k := 41) (fl := 3) (fs := vs) (v := .ref na_other) rfl rfl h69 (hrf 41 na_other rfl) ?_
  refine px_Z_its (pc1 := 77) (lv1 := [(9, .int (Int32.ofNat (tn * 3001 + e))), (8, .int (Int32.ofNat k)), (6, .long b), (4, .long a), (0, .ref 69), (1, .int (Int32.ofNat tn)), (2, .long ch)]) (st1 := [.int (Int32.ofNat (tn * 3001 + e)), .ref na_other]) (hp1 := hp) 1 (fun _ _ _ _ => rfl) ?_
  refine px_q_lald (len := 1) (t := nr_other) (n := 9003) (f := o2) rfl h2 rfl (nm_inR _ _ (by omega) (by decide)) ?_
  rw [nm_ofNat_clamp (tn * 3001 + e) (by omega)]
  refine px_Z_its (pc1 := 80) (lv1 := [(9, .int (Int32.ofNat (tn * 3001 + e))), (8, .int (Int32.ofNat k)), (6, .long b), (4, .long a), (0, .ref 69), (1, .int (Int32.ofNat tn)), (2, .long ch)]) (st1 := [.long b, .long (o2 (tn * 3001 + e))]) (hp1 := hp) 1 (fun _ _ _ _ => rfl) ?_
  refine px_q_lif (len := 1) (c := .ne) (off := 16) (bb := true) rfl rfl (by rw [px_lne]; exact decide_eq_true hne) ?_
  refine px_Z_its (pc1 := 105) (lv1 := [(9, .int (Int32.ofNat (tn * 3001 + e))), (8, .int (Int32.ofNat k)), (6, .long b), (4, .long a), (0, .ref 69), (1, .int (Int32.ofNat tn)), (2, .long ch)]) (st1 := [.int (((Int32.ofNat k) + (Int32.ofInt 1)) &&& ((Int16.ofInt 8191).toInt32))]) (hp1 := hp) 5 (fun _ _ _ _ => rfl) ?_
  rw [nm_next8 k hk]
  refine px_Z_its (pc1 := 21) (lv1 := [(8, .int (Int32.ofNat ((k + 1) % 8192))), (9, .int (Int32.ofNat (tn * 3001 + e))), (6, .long b), (4, .long a), (0, .ref 69), (1, .int (Int32.ofNat tn)), (2, .long ch)]) (st1 := []) (hp1 := hp) 2 (fun _ _ _ _ => rfl) ?_
  exact hR
set_option maxRecDepth 100000 in
theorem nm_adds_f1 {hp : px_H} {vs : List Value} {f g : Nat → Int32} {o1 o2 pt : Nat → Int64} {tn k : Nat} {a b ch : Int64} (h69 : hp[69]? = some (.inr (9, vs))) (hrf : ∀ (k d : Nat), ac_f1 nm_GH 9 k 69 = some (2, 0, 0, [d]) → vs[k]? = some (.ref d))
    (hh : hp[na_hash]? = some (.inl (nr_hash, 24576, .inl f))) (hs : hp[na_size]? = some (.inl (nr_size, 3, .inl g))) (h1 : hp[na_one]? = some (.inl (nr_one, 9003, .inr (.inl o1)))) (h2 : hp[na_other]? = some (.inl (nr_other, 9003, .inr (.inl o2)))) (hq : hp[na_part]? = some (.inl (nr_part, 9003, .inr (.inl pt)))) (htn : tn ≤ 2) (hk : k < 8192)
    {th : Int32} {e : Nat} (he : f (tn * 8192 + k) = Int32.ofNat e) (he9 : e < 3000) (heq : o1 (tn * 3001 + e) = a) (heq2 : o2 (tn * 3001 + e) = b) : px_Z nm_T none nm_P mm_M_adds 21 [(8, .int (Int32.ofNat k)), (9, .int th), (6, .long b), (4, .long a), (0, .ref 69), (1, .int (Int32.ofNat tn)), (2, .long ch)] [] hp (some (.int (Int32.ofInt 1))) (hp.set na_part (.inl (nr_part, 9003, .inr (.inl (vp_updL pt (tn * 3001 + e) ((pt (tn * 3001 + e)) + ch)))))) := by
  refine px_Z_its (pc1 := 22) (lv1 := [(8, .int (Int32.ofNat k)), (9, .int th), (6, .long b), (4, .long a), (0, .ref 69), (1, .int (Int32.ofNat tn)), (2, .long ch)]) (st1 := [.ref 69]) (hp1 := hp) 1 (fun _ _ _ _ => rfl) ?_
  refine px_q_get (len := 3) (idx := 260) (ci := 9) (k := 44) (fl := 3) (fs := vs) (v := .ref na_hash) rfl rfl h69 (hrf 44 na_hash rfl) ?_
  refine px_Z_its (pc1 := 33) (lv1 := [(8, .int (Int32.ofNat k)), (9, .int th), (6, .long b), (4, .long a), (0, .ref 69), (1, .int (Int32.ofNat tn)), (2, .long ch)]) (st1 := [.int (((Int32.ofNat tn) * ((Int16.ofInt 8192).toInt32)) + (Int32.ofNat k)), .ref na_hash]) (hp1 := hp) 5 (fun _ _ _ _ => rfl) ?_
  rw [nm_emp_idx tn k htn hk]
  refine px_q_iald (len := 1) (t := nr_hash) (n := 24576) (f := f) rfl hh rfl (nm_inR _ _ (by omega) (by decide)) ?_
  rw [nm_ofNat_clamp (tn * 8192 + k) (by omega)]
  refine px_q_if (len := 3) (c := .lt) (off := 76) (bb := false) rfl (by rw [he]; simp only [px_cmp, decide_eq_false_iff_not, Int32.lt_iff_toInt_lt, nm_ofNat_toInt e (by omega), Int32.toInt_zero]; omega) ?_
  refine px_Z_its (pc1 := 43) (lv1 := [(8, .int (Int32.ofNat k)), (9, .int th), (6, .long b), (4, .long a), (0, .ref 69), (1, .int (Int32.ofNat tn)), (2, .long ch)]) (st1 := [.ref 69, .int ((Int32.ofNat tn) * ((Int16.ofInt 3001).toInt32))]) (hp1 := hp) 4 (fun _ _ _ _ => rfl) ?_
  refine px_q_get (len := 3) (idx := 260) (ci := 9) (k := 44) (fl := 3) (fs := vs) (v := .ref na_hash) rfl rfl h69 (hrf 44 na_hash rfl) ?_
  refine px_Z_its (pc1 := 54) (lv1 := [(8, .int (Int32.ofNat k)), (9, .int th), (6, .long b), (4, .long a), (0, .ref 69), (1, .int (Int32.ofNat tn)), (2, .long ch)]) (st1 := [.int (((Int32.ofNat tn) * ((Int16.ofInt 8192).toInt32)) + (Int32.ofNat k)), .ref na_hash, .int ((Int32.ofNat tn) * ((Int16.ofInt 3001).toInt32))]) (hp1 := hp) 5 (fun _ _ _ _ => rfl) ?_
  rw [nm_emp_idx tn k htn hk]
  refine px_q_iald (len := 1) (t := nr_hash) (n := 24576) (f := f) rfl hh rfl (nm_inR _ _ (by omega) (by decide)) ?_
  rw [nm_ofNat_clamp (tn * 8192 + k) (by omega), he]
  refine px_Z_its (pc1 := 56) (lv1 := [(8, .int (Int32.ofNat k)), (9, .int th), (6, .long b), (4, .long a), (0, .ref 69), (1, .int (Int32.ofNat tn)), (2, .long ch)]) (st1 := [.int (((Int32.ofNat tn) * ((Int16.ofInt 3001).toInt32)) + (Int32.ofNat e))]) (hp1 := hp) 1 (fun _ _ _ _ => rfl) ?_
  rw [nm_th_idx tn e]
  refine px_Z_its (pc1 := 59) (lv1 := [(9, .int (Int32.ofNat (tn * 3001 + e))), (8, .int (Int32.ofNat k)), (6, .long b), (4, .long a), (0, .ref 69), (1, .int (Int32.ofNat tn)), (2, .long ch)]) (st1 := [.ref 69]) (hp1 := hp) 2 (fun _ _ _ _ => rfl) ?_
  refine px_q_get (len := 3) (idx := 273) (ci := 9) (k := 40) (fl := 3) (fs := vs) (v := .ref na_one) rfl rfl h69 (hrf 40 na_one rfl) ?_
  refine px_Z_its (pc1 := 64) (lv1 := [(9, .int (Int32.ofNat (tn * 3001 + e))), (8, .int (Int32.ofNat k)), (6, .long b), (4, .long a), (0, .ref 69), (1, .int (Int32.ofNat tn)), (2, .long ch)]) (st1 := [.int (Int32.ofNat (tn * 3001 + e)), .ref na_one]) (hp1 := hp) 1 (fun _ _ _ _ => rfl) ?_
  refine px_q_lald (len := 1) (t := nr_one) (n := 9003) (f := o1) rfl h1 rfl (nm_inR _ _ (by omega) (by decide)) ?_
  rw [nm_ofNat_clamp (tn * 3001 + e) (by omega)]
  refine px_Z_its (pc1 := 67) (lv1 := [(9, .int (Int32.ofNat (tn * 3001 + e))), (8, .int (Int32.ofNat k)), (6, .long b), (4, .long a), (0, .ref 69), (1, .int (Int32.ofNat tn)), (2, .long ch)]) (st1 := [.long a, .long (o1 (tn * 3001 + e))]) (hp1 := hp) 1 (fun _ _ _ _ => rfl) ?_
  refine px_q_lif (len := 1) (c := .ne) (off := 29) (bb := false) rfl rfl (by rw [px_lne]; exact decide_eq_false (fun h => h heq)) ?_
  refine px_Z_its (pc1 := 72) (lv1 := [(9, .int (Int32.ofNat (tn * 3001 + e))), (8, .int (Int32.ofNat k)), (6, .long b), (4, .long a), (0, .ref 69), (1, .int (Int32.ofNat tn)), (2, .long ch)]) (st1 := [.ref 69]) (hp1 := hp) 1 (fun _ _ _ _ => rfl) ?_
  refine px_q_get (len := 3) (idx := 276) (ci := 9) (k := 41) (fl := 3) (fs := vs) (v := .ref na_other) rfl rfl h69 (hrf 41 na_other rfl) ?_
  refine px_Z_its (pc1 := 77) (lv1 := [(9, .int (Int32.ofNat (tn * 3001 + e))), (8, .int (Int32.ofNat k)), (6, .long b), (4, .long a), (0, .ref 69), (1, .int (Int32.ofNat tn)), (2, .long ch)]) (st1 := [.int (Int32.ofNat (tn * 3001 + e)), .ref na_other]) (hp1 := hp) 1 (fun _ _ _ _ => rfl) ?_
  refine px_q_lald (len := 1) (t := nr_other) (n := 9003) (f := o2) rfl h2 rfl (nm_inR _ _ (by omega) (by decide)) ?_
  rw [nm_ofNat_clamp (tn * 3001 + e) (by omega)]
  refine px_Z_its (pc1 := 80) (lv1 := [(9, .int (Int32.ofNat (tn * 3001 + e))), (8, .int (Int32.ofNat k)), (6, .long b), (4, .long a), (0, .ref 69), (1, .int (Int32.ofNat tn)), (2, .long ch)]) (st1 := [.long b, .long (o2 (tn * 3001 + e))]) (hp1 := hp) 1 (fun _ _ _ _ => rfl) ?_
  refine px_q_lif (len := 1) (c := .ne) (off := 16) (bb := false) rfl rfl (by rw [px_lne]; exact decide_eq_false (fun h => h heq2)) ?_
  refine px_Z_its (pc1 := 85) (lv1 := [(9, .int (Int32.ofNat (tn * 3001 + e))), (8, .int (Int32.ofNat k)), (6, .long b), (4, .long a), (0, .ref 69), (1, .int (Int32.ofNat tn)), (2, .long ch)]) (st1 := [.ref 69]) (hp1 := hp) 1 (fun _ _ _ _ => rfl) ?_
  refine px_q_get (len := 3) (idx := 279) (ci := 9) (k := 42) (fl := 3) (fs := vs) (v := .ref na_part) rfl rfl h69 (hrf 42 na_part rfl) ?_
  refine px_Z_its (pc1 := 91) (lv1 := [(9, .int (Int32.ofNat (tn * 3001 + e))), (8, .int (Int32.ofNat k)), (6, .long b), (4, .long a), (0, .ref 69), (1, .int (Int32.ofNat tn)), (2, .long ch)]) (st1 := [.int (Int32.ofNat (tn * 3001 + e)), .ref na_part, .int (Int32.ofNat (tn * 3001 + e)), .ref na_part]) (hp1 := hp) 2 (fun _ _ _ _ => rfl) ?_
  refine px_q_lald (len := 1) (t := nr_part) (n := 9003) (f := pt) rfl hq rfl (nm_inR _ _ (by omega) (by decide)) ?_
  rw [nm_ofNat_clamp (tn * 3001 + e) (by omega)]
  refine px_Z_its (pc1 := 94) (lv1 := [(9, .int (Int32.ofNat (tn * 3001 + e))), (8, .int (Int32.ofNat k)), (6, .long b), (4, .long a), (0, .ref 69), (1, .int (Int32.ofNat tn)), (2, .long ch)]) (st1 := [.long ((pt (tn * 3001 + e)) + ch), .int (Int32.ofNat (tn * 3001 + e)), .ref na_part]) (hp1 := hp) 2 (fun _ _ _ _ => rfl) ?_
  refine px_q_last (len := 1) (t := nr_part) (n := 9003) (f := pt) rfl hq rfl (nm_inR _ _ (by omega) (by decide)) ?_
  rw [nm_ofNat_clamp (tn * 3001 + e) (by omega)]
  refine px_Z_its (pc1 := 96) (lv1 := [(9, .int (Int32.ofNat (tn * 3001 + e))), (8, .int (Int32.ofNat k)), (6, .long b), (4, .long a), (0, .ref 69), (1, .int (Int32.ofNat tn)), (2, .long ch)]) (st1 := [.int (Int32.ofInt 1)]) (hp1 := (hp.set na_part (.inl (nr_part, 9003, .inr (.inl (vp_updL pt (tn * 3001 + e) ((pt (tn * 3001 + e)) + ch))))))) 1 (fun _ _ _ _ => rfl) ?_
  exact px_q_iret (len := 1) (ty := .boolean) rfl rfl rfl
set_option maxRecDepth 100000 in
theorem nm_adds_u1 {hp : px_H} {vs : List Value} {f g : Nat → Int32} {o1 o2 pt : Nat → Int64} {tn k : Nat} {a b ch : Int64} (h69 : hp[69]? = some (.inr (9, vs))) (hrf : ∀ (k d : Nat), ac_f1 nm_GH 9 k 69 = some (2, 0, 0, [d]) → vs[k]? = some (.ref d))
    (hh : hp[na_hash]? = some (.inl (nr_hash, 24576, .inl f))) (hs : hp[na_size]? = some (.inl (nr_size, 3, .inl g))) (h1 : hp[na_one]? = some (.inl (nr_one, 9003, .inr (.inl o1)))) (h2 : hp[na_other]? = some (.inl (nr_other, 9003, .inr (.inl o2)))) (hq : hp[na_part]? = some (.inl (nr_part, 9003, .inr (.inl pt)))) (htn : tn ≤ 2) (hk : k < 8192)
    {th : Int32} (hlt : (f (tn * 8192 + k)).toInt < 0) (hfull : g tn = Int32.ofNat 3000) : px_Z nm_T none nm_P mm_M_adds 21 [(8, .int (Int32.ofNat k)), (9, .int th), (6, .long b), (4, .long a), (0, .ref 69), (1, .int (Int32.ofNat tn)), (2, .long ch)] [] hp (some (.int (Int32.ofInt 0))) hp := by
  refine px_Z_its (pc1 := 22) (lv1 := [(8, .int (Int32.ofNat k)), (9, .int th), (6, .long b), (4, .long a), (0, .ref 69), (1, .int (Int32.ofNat tn)), (2, .long ch)]) (st1 := [.ref 69]) (hp1 := hp) 1 (fun _ _ _ _ => rfl) ?_
  refine px_q_get (len := 3) (idx := 260) (ci := 9) (k := 44) (fl := 3) (fs := vs) (v := .ref na_hash) rfl rfl h69 (hrf 44 na_hash rfl) ?_
  refine px_Z_its (pc1 := 33) (lv1 := [(8, .int (Int32.ofNat k)), (9, .int th), (6, .long b), (4, .long a), (0, .ref 69), (1, .int (Int32.ofNat tn)), (2, .long ch)]) (st1 := [.int (((Int32.ofNat tn) * ((Int16.ofInt 8192).toInt32)) + (Int32.ofNat k)), .ref na_hash]) (hp1 := hp) 5 (fun _ _ _ _ => rfl) ?_
  rw [nm_emp_idx tn k htn hk]
  refine px_q_iald (len := 1) (t := nr_hash) (n := 24576) (f := f) rfl hh rfl (nm_inR _ _ (by omega) (by decide)) ?_
  rw [nm_ofNat_clamp (tn * 8192 + k) (by omega)]
  refine px_q_if (len := 3) (c := .lt) (off := 76) (bb := true) rfl (by simp only [px_cmp, decide_eq_true_eq, Int32.lt_iff_toInt_lt, Int32.toInt_zero]; exact hlt) ?_
  refine px_Z_its (pc1 := 111) (lv1 := [(8, .int (Int32.ofNat k)), (9, .int th), (6, .long b), (4, .long a), (0, .ref 69), (1, .int (Int32.ofNat tn)), (2, .long ch)]) (st1 := [.ref 69]) (hp1 := hp) 1 (fun _ _ _ _ => rfl) ?_
  refine px_q_get (len := 3) (idx := 257) (ci := 9) (k := 43) (fl := 3) (fs := vs) (v := .ref na_size) rfl rfl h69 (hrf 43 na_size rfl) ?_
  refine px_Z_its (pc1 := 115) (lv1 := [(8, .int (Int32.ofNat k)), (9, .int th), (6, .long b), (4, .long a), (0, .ref 69), (1, .int (Int32.ofNat tn)), (2, .long ch)]) (st1 := [.int (Int32.ofNat tn), .ref na_size]) (hp1 := hp) 1 (fun _ _ _ _ => rfl) ?_
  refine px_q_iald (len := 1) (t := nr_size) (n := 3) (f := g) rfl hs rfl (nm_inR _ _ (by omega) (by decide)) ?_
  rw [nm_ofNat_clamp tn (by omega), hfull]
  refine px_Z_its (pc1 := 119) (lv1 := [(8, .int (Int32.ofNat k)), (9, .int th), (6, .long b), (4, .long a), (0, .ref 69), (1, .int (Int32.ofNat tn)), (2, .long ch)]) (st1 := [.int (Int16.ofInt 3000).toInt32, .int (Int32.ofNat 3000)]) (hp1 := hp) 1 (fun _ _ _ _ => rfl) ?_
  refine px_q_icmp (len := 3) (c := .ne) (off := 5) (bb := false) rfl (by decide) ?_
  refine px_Z_its (pc1 := 123) (lv1 := [(8, .int (Int32.ofNat k)), (9, .int th), (6, .long b), (4, .long a), (0, .ref 69), (1, .int (Int32.ofNat tn)), (2, .long ch)]) (st1 := [.int (Int32.ofInt 0)]) (hp1 := hp) 1 (fun _ _ _ _ => rfl) ?_
  exact px_q_iret (len := 1) (ty := .boolean) rfl rfl rfl
set_option maxRecDepth 100000 in
theorem nm_adds_n1 {hp : px_H} {vs : List Value} {f g : Nat → Int32} {o1 o2 pt : Nat → Int64} {tn k : Nat} {a b ch : Int64} (h69 : hp[69]? = some (.inr (9, vs))) (hrf : ∀ (k d : Nat), ac_f1 nm_GH 9 k 69 = some (2, 0, 0, [d]) → vs[k]? = some (.ref d))
    (hh : hp[na_hash]? = some (.inl (nr_hash, 24576, .inl f))) (hs : hp[na_size]? = some (.inl (nr_size, 3, .inl g))) (h1 : hp[na_one]? = some (.inl (nr_one, 9003, .inr (.inl o1)))) (h2 : hp[na_other]? = some (.inl (nr_other, 9003, .inr (.inl o2)))) (hq : hp[na_part]? = some (.inl (nr_part, 9003, .inr (.inl pt)))) (htn : tn ≤ 2) (hk : k < 8192)
    {th : Int32} {e : Nat} (hlt : (f (tn * 8192 + k)).toInt < 0) (hsz : g tn = Int32.ofNat e) (he9 : e < 3000) : px_Z nm_T none nm_P mm_M_adds 21 [(8, .int (Int32.ofNat k)), (9, .int th), (6, .long b), (4, .long a), (0, .ref 69), (1, .int (Int32.ofNat tn)), (2, .long ch)] [] hp (some (.int (Int32.ofInt 1))) (((((hp.set na_hash (.inl (nr_hash, 24576, .inl (upd f (tn * 8192 + k) (Int32.ofNat e))))).set na_one (.inl (nr_one, 9003, .inr (.inl (vp_updL o1 (tn * 3001 + e) a))))).set na_other (.inl (nr_other, 9003, .inr (.inl (vp_updL o2 (tn * 3001 + e) b))))).set na_part (.inl (nr_part, 9003, .inr (.inl (vp_updL pt (tn * 3001 + e) ch))))).set na_size (.inl (nr_size, 3, .inl (upd g tn ((Int32.ofNat e) + (Int32.ofInt 1)))))) := by
  refine px_Z_its (pc1 := 22) (lv1 := [(8, .int (Int32.ofNat k)), (9, .int th), (6, .long b), (4, .long a), (0, .ref 69), (1, .int (Int32.ofNat tn)), (2, .long ch)]) (st1 := [.ref 69]) (hp1 := hp) 1 (fun _ _ _ _ => rfl) ?_
  refine px_q_get (len := 3) (idx := 260) (ci := 9) (k := 44) (fl := 3) (fs := vs) (v := .ref na_hash) rfl rfl h69 (hrf 44 na_hash rfl) ?_
  refine px_Z_its (pc1 := 33) (lv1 := [(8, .int (Int32.ofNat k)), (9, .int th), (6, .long b), (4, .long a), (0, .ref 69), (1, .int (Int32.ofNat tn)), (2, .long ch)]) (st1 := [.int (((Int32.ofNat tn) * ((Int16.ofInt 8192).toInt32)) + (Int32.ofNat k)), .ref na_hash]) (hp1 := hp) 5 (fun _ _ _ _ => rfl) ?_
  rw [nm_emp_idx tn k htn hk]
  refine px_q_iald (len := 1) (t := nr_hash) (n := 24576) (f := f) rfl hh rfl (nm_inR _ _ (by omega) (by decide)) ?_
  rw [nm_ofNat_clamp (tn * 8192 + k) (by omega)]
  refine px_q_if (len := 3) (c := .lt) (off := 76) (bb := true) rfl (by simp only [px_cmp, decide_eq_true_eq, Int32.lt_iff_toInt_lt, Int32.toInt_zero]; exact hlt) ?_
  refine px_Z_its (pc1 := 111) (lv1 := [(8, .int (Int32.ofNat k)), (9, .int th), (6, .long b), (4, .long a), (0, .ref 69), (1, .int (Int32.ofNat tn)), (2, .long ch)]) (st1 := [.ref 69]) (hp1 := hp) 1 (fun _ _ _ _ => rfl) ?_
  refine px_q_get (len := 3) (idx := 257) (ci := 9) (k := 43) (fl := 3) (fs := vs) (v := .ref na_size) rfl rfl h69 (hrf 43 na_size rfl) ?_
  refine px_Z_its (pc1 := 115) (lv1 := [(8, .int (Int32.ofNat k)), (9, .int th), (6, .long b), (4, .long a), (0, .ref 69), (1, .int (Int32.ofNat tn)), (2, .long ch)]) (st1 := [.int (Int32.ofNat tn), .ref na_size]) (hp1 := hp) 1 (fun _ _ _ _ => rfl) ?_
  refine px_q_iald (len := 1) (t := nr_size) (n := 3) (f := g) rfl hs rfl (nm_inR _ _ (by omega) (by decide)) ?_
  rw [nm_ofNat_clamp tn (by omega), hsz]
  refine px_Z_its (pc1 := 119) (lv1 := [(8, .int (Int32.ofNat k)), (9, .int th), (6, .long b), (4, .long a), (0, .ref 69), (1, .int (Int32.ofNat tn)), (2, .long ch)]) (st1 := [.int (Int16.ofInt 3000).toInt32, .int (Int32.ofNat e)]) (hp1 := hp) 1 (fun _ _ _ _ => rfl) ?_
  refine px_q_icmp (len := 3) (c := .ne) (off := 5) (bb := true) rfl (by simp only [px_cmp, decide_eq_true_eq]; intro h; have h9 := congrArg Int32.toInt h; rw [nm_ofNat_toInt e (by omega)] at h9; rw [show (Int16.ofInt 3000).toInt32.toInt = 3000 from by decide] at h9; omega) ?_
  refine px_Z_its (pc1 := 125) (lv1 := [(8, .int (Int32.ofNat k)), (9, .int th), (6, .long b), (4, .long a), (0, .ref 69), (1, .int (Int32.ofNat tn)), (2, .long ch)]) (st1 := [.ref 69]) (hp1 := hp) 1 (fun _ _ _ _ => rfl) ?_
  refine px_q_get (len := 3) (idx := 260) (ci := 9) (k := 44) (fl := 3) (fs := vs) (v := .ref na_hash) rfl rfl h69 (hrf 44 na_hash rfl) ?_
  refine px_Z_its (pc1 := 136) (lv1 := [(8, .int (Int32.ofNat k)), (9, .int th), (6, .long b), (4, .long a), (0, .ref 69), (1, .int (Int32.ofNat tn)), (2, .long ch)]) (st1 := [.int (((Int32.ofNat tn) * ((Int16.ofInt 8192).toInt32)) + (Int32.ofNat k)), .ref na_hash]) (hp1 := hp) 5 (fun _ _ _ _ => rfl) ?_
  rw [nm_emp_idx tn k htn hk]
  refine px_Z_its (pc1 := 137) (lv1 := [(8, .int (Int32.ofNat k)), (9, .int th), (6, .long b), (4, .long a), (0, .ref 69), (1, .int (Int32.ofNat tn)), (2, .long ch)]) (st1 := [.ref 69, .int (Int32.ofNat (tn * 8192 + k)), .ref na_hash]) (hp1 := hp) 1 (fun _ _ _ _ => rfl) ?_
  refine px_q_get (len := 3) (idx := 257) (ci := 9) (k := 43) (fl := 3) (fs := vs) (v := .ref na_size) rfl rfl h69 (hrf 43 na_size rfl) ?_
  refine px_Z_its (pc1 := 141) (lv1 := [(8, .int (Int32.ofNat k)), (9, .int th), (6, .long b), (4, .long a), (0, .ref 69), (1, .int (Int32.ofNat tn)), (2, .long ch)]) (st1 := [.int (Int32.ofNat tn), .ref na_size, .int (Int32.ofNat (tn * 8192 + k)), .ref na_hash]) (hp1 := hp) 1 (fun _ _ _ _ => rfl) ?_
  refine px_q_iald (len := 1) (t := nr_size) (n := 3) (f := g) rfl hs rfl (nm_inR _ _ (by omega) (by decide)) ?_
  rw [nm_ofNat_clamp tn (by omega), hsz]
  refine px_q_iast (len := 1) (t := nr_hash) (n := 24576) (f := f) rfl hh rfl (nm_inR _ _ (by omega) (by decide)) ?_
  rw [nm_ofNat_clamp (tn * 8192 + k) (by omega)]
  refine px_Z_its (pc1 := 149) (lv1 := [(8, .int (Int32.ofNat k)), (9, .int th), (6, .long b), (4, .long a), (0, .ref 69), (1, .int (Int32.ofNat tn)), (2, .long ch)]) (st1 := [.ref 69, .int ((Int32.ofNat tn) * ((Int16.ofInt 3001).toInt32))]) (hp1 := (hp.set na_hash (.inl (nr_hash, 24576, .inl (upd f (tn * 8192 + k) (Int32.ofNat e)))))) 4 (fun _ _ _ _ => rfl) ?_
  refine px_q_get (len := 3) (idx := 257) (ci := 9) (k := 43) (fl := 3) (fs := vs) (v := .ref na_size) rfl rfl ((List.getElem?_set_ne (by decide)).trans h69) (hrf 43 na_size rfl) ?_
  refine px_Z_its (pc1 := 153) (lv1 := [(8, .int (Int32.ofNat k)), (9, .int th), (6, .long b), (4, .long a), (0, .ref 69), (1, .int (Int32.ofNat tn)), (2, .long ch)]) (st1 := [.int (Int32.ofNat tn), .ref na_size, .int ((Int32.ofNat tn) * ((Int16.ofInt 3001).toInt32))]) (hp1 := (hp.set na_hash (.inl (nr_hash, 24576, .inl (upd f (tn * 8192 + k) (Int32.ofNat e)))))) 1 (fun _ _ _ _ => rfl) ?_
  refine px_q_iald (len := 1) (t := nr_size) (n := 3) (f := g) rfl ((List.getElem?_set_ne (by decide)).trans hs) rfl (nm_inR _ _ (by omega) (by decide)) ?_
  rw [nm_ofNat_clamp tn (by omega), hsz]
  refine px_Z_its (pc1 := 155) (lv1 := [(8, .int (Int32.ofNat k)), (9, .int th), (6, .long b), (4, .long a), (0, .ref 69), (1, .int (Int32.ofNat tn)), (2, .long ch)]) (st1 := [.int (((Int32.ofNat tn) * ((Int16.ofInt 3001).toInt32)) + (Int32.ofNat e))]) (hp1 := (hp.set na_hash (.inl (nr_hash, 24576, .inl (upd f (tn * 8192 + k) (Int32.ofNat e)))))) 1 (fun _ _ _ _ => rfl) ?_
  rw [nm_th_idx tn e]
  refine px_Z_its (pc1 := 158) (lv1 := [(9, .int (Int32.ofNat (tn * 3001 + e))), (8, .int (Int32.ofNat k)), (6, .long b), (4, .long a), (0, .ref 69), (1, .int (Int32.ofNat tn)), (2, .long ch)]) (st1 := [.ref 69]) (hp1 := (hp.set na_hash (.inl (nr_hash, 24576, .inl (upd f (tn * 8192 + k) (Int32.ofNat e)))))) 2 (fun _ _ _ _ => rfl) ?_
  refine px_q_get (len := 3) (idx := 273) (ci := 9) (k := 40) (fl := 3) (fs := vs) (v := .ref na_one) rfl rfl ((List.getElem?_set_ne (by decide)).trans h69) (hrf 40 na_one rfl) ?_
  refine px_Z_its (pc1 := 165) (lv1 := [(9, .int (Int32.ofNat (tn * 3001 + e))), (8, .int (Int32.ofNat k)), (6, .long b), (4, .long a), (0, .ref 69), (1, .int (Int32.ofNat tn)), (2, .long ch)]) (st1 := [.long a, .int (Int32.ofNat (tn * 3001 + e)), .ref na_one]) (hp1 := (hp.set na_hash (.inl (nr_hash, 24576, .inl (upd f (tn * 8192 + k) (Int32.ofNat e)))))) 2 (fun _ _ _ _ => rfl) ?_
  refine px_q_last (len := 1) (t := nr_one) (n := 9003) (f := o1) rfl ((List.getElem?_set_ne (by decide)).trans h1) rfl (nm_inR _ _ (by omega) (by decide)) ?_
  rw [nm_ofNat_clamp (tn * 3001 + e) (by omega)]
  refine px_Z_its (pc1 := 167) (lv1 := [(9, .int (Int32.ofNat (tn * 3001 + e))), (8, .int (Int32.ofNat k)), (6, .long b), (4, .long a), (0, .ref 69), (1, .int (Int32.ofNat tn)), (2, .long ch)]) (st1 := [.ref 69]) (hp1 := ((hp.set na_hash (.inl (nr_hash, 24576, .inl (upd f (tn * 8192 + k) (Int32.ofNat e))))).set na_one (.inl (nr_one, 9003, .inr (.inl (vp_updL o1 (tn * 3001 + e) a)))))) 1 (fun _ _ _ _ => rfl) ?_
  refine px_q_get (len := 3) (idx := 276) (ci := 9) (k := 41) (fl := 3) (fs := vs) (v := .ref na_other) rfl rfl ((List.getElem?_set_ne (by decide)).trans ((List.getElem?_set_ne (by decide)).trans h69)) (hrf 41 na_other rfl) ?_
  refine px_Z_its (pc1 := 174) (lv1 := [(9, .int (Int32.ofNat (tn * 3001 + e))), (8, .int (Int32.ofNat k)), (6, .long b), (4, .long a), (0, .ref 69), (1, .int (Int32.ofNat tn)), (2, .long ch)]) (st1 := [.long b, .int (Int32.ofNat (tn * 3001 + e)), .ref na_other]) (hp1 := ((hp.set na_hash (.inl (nr_hash, 24576, .inl (upd f (tn * 8192 + k) (Int32.ofNat e))))).set na_one (.inl (nr_one, 9003, .inr (.inl (vp_updL o1 (tn * 3001 + e) a)))))) 2 (fun _ _ _ _ => rfl) ?_
  refine px_q_last (len := 1) (t := nr_other) (n := 9003) (f := o2) rfl ((List.getElem?_set_ne (by decide)).trans ((List.getElem?_set_ne (by decide)).trans h2)) rfl (nm_inR _ _ (by omega) (by decide)) ?_
  rw [nm_ofNat_clamp (tn * 3001 + e) (by omega)]
  refine px_Z_its (pc1 := 176) (lv1 := [(9, .int (Int32.ofNat (tn * 3001 + e))), (8, .int (Int32.ofNat k)), (6, .long b), (4, .long a), (0, .ref 69), (1, .int (Int32.ofNat tn)), (2, .long ch)]) (st1 := [.ref 69]) (hp1 := (((hp.set na_hash (.inl (nr_hash, 24576, .inl (upd f (tn * 8192 + k) (Int32.ofNat e))))).set na_one (.inl (nr_one, 9003, .inr (.inl (vp_updL o1 (tn * 3001 + e) a))))).set na_other (.inl (nr_other, 9003, .inr (.inl (vp_updL o2 (tn * 3001 + e) b)))))) 1 (fun _ _ _ _ => rfl) ?_
  refine px_q_get (len := 3) (idx := 279) (ci := 9) (k := 42) (fl := 3) (fs := vs) (v := .ref na_part) rfl rfl ((List.getElem?_set_ne (by decide)).trans ((List.getElem?_set_ne (by decide)).trans ((List.getElem?_set_ne (by decide)).trans h69))) (hrf 42 na_part rfl) ?_
  refine px_Z_its (pc1 := 182) (lv1 := [(9, .int (Int32.ofNat (tn * 3001 + e))), (8, .int (Int32.ofNat k)), (6, .long b), (4, .long a), (0, .ref 69), (1, .int (Int32.ofNat tn)), (2, .long ch)]) (st1 := [.long ch, .int (Int32.ofNat (tn * 3001 + e)), .ref na_part]) (hp1 := (((hp.set na_hash (.inl (nr_hash, 24576, .inl (upd f (tn * 8192 + k) (Int32.ofNat e))))).set na_one (.inl (nr_one, 9003, .inr (.inl (vp_updL o1 (tn * 3001 + e) a))))).set na_other (.inl (nr_other, 9003, .inr (.inl (vp_updL o2 (tn * 3001 + e) b)))))) 2 (fun _ _ _ _ => rfl) ?_
  refine px_q_last (len := 1) (t := nr_part) (n := 9003) (f := pt) rfl ((List.getElem?_set_ne (by decide)).trans ((List.getElem?_set_ne (by decide)).trans ((List.getElem?_set_ne (by decide)).trans hq))) rfl (nm_inR _ _ (by omega) (by decide)) ?_
  rw [nm_ofNat_clamp (tn * 3001 + e) (by omega)]
  refine px_Z_its (pc1 := 184) (lv1 := [(9, .int (Int32.ofNat (tn * 3001 + e))), (8, .int (Int32.ofNat k)), (6, .long b), (4, .long a), (0, .ref 69), (1, .int (Int32.ofNat tn)), (2, .long ch)]) (st1 := [.ref 69]) (hp1 := ((((hp.set na_hash (.inl (nr_hash, 24576, .inl (upd f (tn * 8192 + k) (Int32.ofNat e))))).set na_one (.inl (nr_one, 9003, .inr (.inl (vp_updL o1 (tn * 3001 + e) a))))).set na_other (.inl (nr_other, 9003, .inr (.inl (vp_updL o2 (tn * 3001 + e) b))))).set na_part (.inl (nr_part, 9003, .inr (.inl (vp_updL pt (tn * 3001 + e) ch)))))) 1 (fun _ _ _ _ => rfl) ?_
  refine px_q_get (len := 3) (idx := 257) (ci := 9) (k := 43) (fl := 3) (fs := vs) (v := .ref na_size) rfl rfl ((List.getElem?_set_ne (by decide)).trans ((List.getElem?_set_ne (by decide)).trans ((List.getElem?_set_ne (by decide)).trans ((List.getElem?_set_ne (by decide)).trans h69)))) (hrf 43 na_size rfl) ?_
  refine px_Z_its (pc1 := 189) (lv1 := [(9, .int (Int32.ofNat (tn * 3001 + e))), (8, .int (Int32.ofNat k)), (6, .long b), (4, .long a), (0, .ref 69), (1, .int (Int32.ofNat tn)), (2, .long ch)]) (st1 := [.int (Int32.ofNat tn), .ref na_size, .int (Int32.ofNat tn), .ref na_size]) (hp1 := ((((hp.set na_hash (.inl (nr_hash, 24576, .inl (upd f (tn * 8192 + k) (Int32.ofNat e))))).set na_one (.inl (nr_one, 9003, .inr (.inl (vp_updL o1 (tn * 3001 + e) a))))).set na_other (.inl (nr_other, 9003, .inr (.inl (vp_updL o2 (tn * 3001 + e) b))))).set na_part (.inl (nr_part, 9003, .inr (.inl (vp_updL pt (tn * 3001 + e) ch)))))) 2 (fun _ _ _ _ => rfl) ?_
  refine px_q_iald (len := 1) (t := nr_size) (n := 3) (f := g) rfl ((List.getElem?_set_ne (by decide)).trans ((List.getElem?_set_ne (by decide)).trans ((List.getElem?_set_ne (by decide)).trans ((List.getElem?_set_ne (by decide)).trans hs)))) rfl (nm_inR _ _ (by omega) (by decide)) ?_
  rw [nm_ofNat_clamp tn (by omega), hsz]
  refine px_Z_its (pc1 := 192) (lv1 := [(9, .int (Int32.ofNat (tn * 3001 + e))), (8, .int (Int32.ofNat k)), (6, .long b), (4, .long a), (0, .ref 69), (1, .int (Int32.ofNat tn)), (2, .long ch)]) (st1 := [.int ((Int32.ofNat e) + (Int32.ofInt 1)), .int (Int32.ofNat tn), .ref na_size]) (hp1 := ((((hp.set na_hash (.inl (nr_hash, 24576, .inl (upd f (tn * 8192 + k) (Int32.ofNat e))))).set na_one (.inl (nr_one, 9003, .inr (.inl (vp_updL o1 (tn * 3001 + e) a))))).set na_other (.inl (nr_other, 9003, .inr (.inl (vp_updL o2 (tn * 3001 + e) b))))).set na_part (.inl (nr_part, 9003, .inr (.inl (vp_updL pt (tn * 3001 + e) ch)))))) 2 (fun _ _ _ _ => rfl) ?_
  refine px_q_iast (len := 1) (t := nr_size) (n := 3) (f := g) rfl ((List.getElem?_set_ne (by decide)).trans ((List.getElem?_set_ne (by decide)).trans ((List.getElem?_set_ne (by decide)).trans ((List.getElem?_set_ne (by decide)).trans hs)))) rfl (nm_inR _ _ (by omega) (by decide)) ?_
  rw [nm_ofNat_clamp tn (by omega)]
  refine px_Z_its (pc1 := 194) (lv1 := [(9, .int (Int32.ofNat (tn * 3001 + e))), (8, .int (Int32.ofNat k)), (6, .long b), (4, .long a), (0, .ref 69), (1, .int (Int32.ofNat tn)), (2, .long ch)]) (st1 := [.int (Int32.ofInt 1)]) (hp1 := (((((hp.set na_hash (.inl (nr_hash, 24576, .inl (upd f (tn * 8192 + k) (Int32.ofNat e))))).set na_one (.inl (nr_one, 9003, .inr (.inl (vp_updL o1 (tn * 3001 + e) a))))).set na_other (.inl (nr_other, 9003, .inr (.inl (vp_updL o2 (tn * 3001 + e) b))))).set na_part (.inl (nr_part, 9003, .inr (.inl (vp_updL pt (tn * 3001 + e) ch))))).set na_size (.inl (nr_size, 3, .inl (upd g tn ((Int32.ofNat e) + (Int32.ofInt 1))))))) 1 (fun _ _ _ _ => rfl) ?_
  exact px_q_iret (len := 1) (ty := .boolean) rfl rfl rfl
theorem nm_ofC (t : Int32) (h : 0 ≤ t.toInt) : Int32.ofNat t.toNatClampNeg = t := by
  have h2 := ab_i32 t
  simp only [ab_in, ab_topi] at h2
  have h1 : ((t.toNatClampNeg : Nat) : Int) = t.toInt := by
    unfold Int32.toNatClampNeg
    exact Int.toNat_of_nonneg h
  rw [← Int32.toInt_inj, nm_ofNat_toInt _ (by omega), h1]
/-- what adds may come to -/
def nm_AR (hp : px_H) (f g : Nat → Int32) (o1 o2 pt : Nat → Int64) (tn : Nat) (a b ch : Int64) (r : Option Value) (hp' : px_H) : Prop :=
  (∃ e : Nat, e < 3000 ∧ o1 (tn * 3001 + e) = a ∧ o2 (tn * 3001 + e) = b ∧ r = some (.int (Int32.ofInt 1)) ∧ hp' = (hp.set na_part (.inl (nr_part, 9003, .inr (.inl (vp_updL pt (tn * 3001 + e) ((pt (tn * 3001 + e)) + ch))))))) ∨
  (g tn = Int32.ofNat 3000 ∧ r = some (.int (Int32.ofInt 0)) ∧ hp' = hp) ∨
  (∃ k e : Nat, k < 8192 ∧ (f (tn * 8192 + k)).toInt < 0 ∧ g tn = Int32.ofNat e ∧ e < 3000 ∧ r = some (.int (Int32.ofInt 1)) ∧ hp' = (((((hp.set na_hash (.inl (nr_hash, 24576, .inl (upd f (tn * 8192 + k) (Int32.ofNat e))))).set na_one (.inl (nr_one, 9003, .inr (.inl (vp_updL o1 (tn * 3001 + e) a))))).set na_other (.inl (nr_other, 9003, .inr (.inl (vp_updL o2 (tn * 3001 + e) b))))).set na_part (.inl (nr_part, 9003, .inr (.inl (vp_updL pt (tn * 3001 + e) ch))))).set na_size (.inl (nr_size, 3, .inl (upd g tn ((Int32.ofNat e) + (Int32.ofInt 1)))))))
theorem nm_adds_l1 {hp : px_H} {vs : List Value} {f g : Nat → Int32} {o1 o2 pt : Nat → Int64} {tn : Nat} {a b ch : Int64} (h69 : hp[69]? = some (.inr (9, vs))) (hrf : ∀ (k d : Nat), ac_f1 nm_GH 9 k 69 = some (2, 0, 0, [d]) → vs[k]? = some (.ref d))
    (hh : hp[na_hash]? = some (.inl (nr_hash, 24576, .inl f))) (hs : hp[na_size]? = some (.inl (nr_size, 3, .inl g))) (h1 : hp[na_one]? = some (.inl (nr_one, 9003, .inr (.inl o1)))) (h2 : hp[na_other]? = some (.inl (nr_other, 9003, .inr (.inl o2)))) (hq : hp[na_part]? = some (.inl (nr_part, 9003, .inr (.inl pt)))) (htn : tn ≤ 2)
    (hfb : ∀ j, j < 24576 → -1 ≤ (f j).toInt ∧ (f j).toInt ≤ 2999) (hgb : ∀ j, j < 3 → 0 ≤ (g j).toInt ∧ (g j).toInt ≤ 3000) {z : Nat} (hz : z < 8192) (hze : (f (tn * 8192 + z)).toInt < 0) :
    ∀ (d k : Nat) (th : Int32), k < 8192 → (z + 8192 - k) % 8192 = d → ∃ r hp', px_Z nm_T none nm_P mm_M_adds 21 [(8, .int (Int32.ofNat k)), (9, .int th), (6, .long b), (4, .long a), (0, .ref 69), (1, .int (Int32.ofNat tn)), (2, .long ch)] [] hp r hp' ∧ nm_AR hp f g o1 o2 pt tn a b ch r hp' := by
  intro d
  induction d with
  | zero =>
    intro k th hk hd
    have hkz : k = z := by omega
    subst hkz
    by_cases hfull : (g tn).toInt = 3000
    · have hg3 : g tn = Int32.ofNat 3000 := by rw [← Int32.toInt_inj, hfull]; decide
      exact ⟨_, _, nm_adds_u1 h69 hrf hh hs h1 h2 hq htn hk hze hg3, Or.inr (Or.inl ⟨hg3, rfl, rfl⟩)⟩
    · have hb := hgb tn (by omega)
      have hge := nm_ofC (g tn) hb.1
      have he9 : (g tn).toNatClampNeg < 3000 := by unfold Int32.toNatClampNeg; omega
      exact ⟨_, _, nm_adds_n1 h69 hrf hh hs h1 h2 hq htn hk hze hge.symm he9, Or.inr (Or.inr ⟨k, _, hk, hze, hge.symm, he9, rfl, rfl⟩)⟩
  | succ d ih =>
    intro k th hk hd
    by_cases hneg : (f (tn * 8192 + k)).toInt < 0
    · by_cases hfull : (g tn).toInt = 3000
      · have hg3 : g tn = Int32.ofNat 3000 := by rw [← Int32.toInt_inj, hfull]; decide
        exact ⟨_, _, nm_adds_u1 h69 hrf hh hs h1 h2 hq htn hk hneg hg3, Or.inr (Or.inl ⟨hg3, rfl, rfl⟩)⟩
      · have hb := hgb tn (by omega)
        have hge := nm_ofC (g tn) hb.1
        have he9 : (g tn).toNatClampNeg < 3000 := by unfold Int32.toNatClampNeg; omega
        exact ⟨_, _, nm_adds_n1 h69 hrf hh hs h1 h2 hq htn hk hneg hge.symm he9, Or.inr (Or.inr ⟨k, _, hk, hneg, hge.symm, he9, rfl, rfl⟩)⟩
    · have hb := hfb (tn * 8192 + k) (by omega)
      have hge := (nm_ofC (f (tn * 8192 + k)) (by omega)).symm
      have he9 : (f (tn * 8192 + k)).toNatClampNeg < 3000 := by unfold Int32.toNatClampNeg; omega
      have hkz : k ≠ z := fun h => hneg (by rw [h]; exact hze)
      obtain ⟨r, hp', hR, hres⟩ := ih ((k + 1) % 8192) (Int32.ofNat (tn * 3001 + (f (tn * 8192 + k)).toNatClampNeg)) (by omega) (by omega)
      by_cases e1 : o1 (tn * 3001 + (f (tn * 8192 + k)).toNatClampNeg) = a
      · by_cases e2 : o2 (tn * 3001 + (f (tn * 8192 + k)).toNatClampNeg) = b
        · exact ⟨_, _, nm_adds_f1 h69 hrf hh hs h1 h2 hq htn hk hge he9 e1 e2, Or.inl ⟨_, he9, e1, e2, rfl, rfl⟩⟩
        · exact ⟨r, hp', nm_adds_b1 h69 hrf hh hs h1 h2 hq htn hk hge he9 e1 e2 hR, hres⟩
      · exact ⟨r, hp', nm_adds_a1 h69 hrf hh hs h1 h2 hq htn hk hge he9 e1 hR, hres⟩
theorem nm_adds_l0 {hp : px_H} {vs : List Value} {f g : Nat → Int32} {o1 o2 pt : Nat → Int64} {tn : Nat} {a b ch : Int64} (h69 : hp[69]? = some (.inr (9, vs))) (hrf : ∀ (k d : Nat), ac_f1 nm_GH 9 k 69 = some (2, 0, 0, [d]) → vs[k]? = some (.ref d))
    (hh : hp[na_hash]? = some (.inl (nr_hash, 24576, .inl f))) (hs : hp[na_size]? = some (.inl (nr_size, 3, .inl g))) (h1 : hp[na_one]? = some (.inl (nr_one, 9003, .inr (.inl o1)))) (h2 : hp[na_other]? = some (.inl (nr_other, 9003, .inr (.inl o2)))) (hq : hp[na_part]? = some (.inl (nr_part, 9003, .inr (.inl pt)))) (htn : tn ≤ 2)
    (hfb : ∀ j, j < 24576 → -1 ≤ (f j).toInt ∧ (f j).toInt ≤ 2999) (hgb : ∀ j, j < 3 → 0 ≤ (g j).toInt ∧ (g j).toInt ≤ 3000) {z : Nat} (hz : z < 8192) (hze : (f (tn * 8192 + z)).toInt < 0) (k : Nat) (hk : k < 8192) :
    ∃ r hp', px_Z nm_T none nm_P mm_M_adds 21 [(8, .int (Int32.ofNat k)), (6, .long b), (4, .long a), (0, .ref 69), (1, .int (Int32.ofNat tn)), (2, .long ch)] [] hp r hp' ∧ nm_AR hp f g o1 o2 pt tn a b ch r hp' := by
  by_cases hneg : (f (tn * 8192 + k)).toInt < 0
  · by_cases hfull : (g tn).toInt = 3000
    · have hg3 : g tn = Int32.ofNat 3000 := by rw [← Int32.toInt_inj, hfull]; decide
      exact ⟨_, _, nm_adds_u0 h69 hrf hh hs h1 h2 hq htn hk hneg hg3, Or.inr (Or.inl ⟨hg3, rfl, rfl⟩)⟩
    · have hb := hgb tn (by omega)
      have hge := nm_ofC (g tn) hb.1
      have he9 : (g tn).toNatClampNeg < 3000 := by unfold Int32.toNatClampNeg; omega
      exact ⟨_, _, nm_adds_n0 h69 hrf hh hs h1 h2 hq htn hk hneg hge.symm he9, Or.inr (Or.inr ⟨k, _, hk, hneg, hge.symm, he9, rfl, rfl⟩)⟩
  · have hb := hfb (tn * 8192 + k) (by omega)
    have hge := (nm_ofC (f (tn * 8192 + k)) (by omega)).symm
    have he9 : (f (tn * 8192 + k)).toNatClampNeg < 3000 := by unfold Int32.toNatClampNeg; omega
    have hkz : k ≠ z := fun h => hneg (by rw [h]; exact hze)
    obtain ⟨r, hp', hR, hres⟩ := nm_adds_l1 (a := a) (b := b) (ch := ch) h69 hrf hh hs h1 h2 hq htn hfb hgb hz hze _ ((k + 1) % 8192) (Int32.ofNat (tn * 3001 + (f (tn * 8192 + k)).toNatClampNeg)) (by omega) rfl
    by_cases e1 : o1 (tn * 3001 + (f (tn * 8192 + k)).toNatClampNeg) = a
    · by_cases e2 : o2 (tn * 3001 + (f (tn * 8192 + k)).toNatClampNeg) = b
      · exact ⟨_, _, nm_adds_f0 h69 hrf hh hs h1 h2 hq htn hk hge he9 e1 e2, Or.inl ⟨_, he9, e1, e2, rfl, rfl⟩⟩
      · exact ⟨r, hp', nm_adds_b0 h69 hrf hh hs h1 h2 hq htn hk hge he9 e1 e2 hR, hres⟩
    · exact ⟨r, hp', nm_adds_a0 h69 hrf hh hs h1 h2 hq htn hk hge he9 e1 hR, hres⟩
