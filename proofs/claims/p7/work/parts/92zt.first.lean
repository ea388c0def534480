section mg_0
/-! goesThrough: what first answers, and the bag in it -/
def nm_sh (x : Int64) (k : Int) : Int64 := x <<< ((Int8.ofInt k).toInt32.toInt64 &&& 63)
def nm_fst (x0 x1 a0 a1 pb sv : Int32) : Int64 := (x0 ||| (x1 <<< ((Int8.ofInt 10).toInt32 &&& 31))).toInt64 ||| (((nm_sh a0.toInt64 20 ||| nm_sh a1.toInt64 30) ||| nm_sh pb.toInt64 40) ||| nm_sh sv.toInt64 50)
theorem nm_first_C {hp : px_H} {fs : List Value} (hG : ab_h nm_GH hp) (hx : hp[69]? = some (.inr (9, fs))) {gB gA : Nat → Int32} {pb sv : Int32} (hB : hp[na_inBag]? = some (.inl (nr_inBag, 2, .inl gB))) (hA : hp[na_aside]? = some (.inl (nr_aside, 2, .inl gA))) (hpb : fs[nf_putBy]? = some (.int pb)) (hs : fs[nf_sitting]? = some (.int sv)) :
    px_C nm_T nm_P mi_M_first [.ref 69] hp (some (.long (nm_fst (gB 0) (gB 1) (gA 0) (gA 1) pb sv))) hp := by
  refine px_C_of (N := mm_M_first) rfl (Nat.le_of_ble_eq_true rfl) ?_
  refine px_Z_its (pc1 := 1) (lv1 := [(0, .ref 69)]) (st1 := [.ref 69]) (hp1 := hp) 1 (fun _ _ _ _ => rfl) ?_
  refine px_q_get (len := 3) (ci := 9) (k := nf_inBag) (fs := fs) (v := .ref na_inBag) rfl rfl hx (nm_f hG hx rfl) ?_
  refine px_Z_its (pc1 := 5) (lv1 := [(0, .ref 69)]) (st1 := [.int 0, .ref na_inBag]) (hp1 := hp) 1 (fun _ _ _ _ => rfl) ?_
  refine px_q_iald (len := 1) rfl hB rfl rfl ?_
  refine px_Z_its (pc1 := 7) (lv1 := [(0, .ref 69)]) (st1 := [.ref 69, .int (gB 0)]) (hp1 := hp) 1 (fun _ _ _ _ => rfl) ?_
  refine px_q_get (len := 3) (ci := 9) (k := nf_inBag) (fs := fs) (v := .ref na_inBag) rfl rfl hx (nm_f hG hx rfl) ?_
  refine px_Z_its (pc1 := 11) (lv1 := [(0, .ref 69)]) (st1 := [.int 1, .ref na_inBag, .int (gB 0)]) (hp1 := hp) 1 (fun _ _ _ _ => rfl) ?_
  refine px_q_iald (len := 1) rfl hB rfl rfl ?_
  generalize hv : (gB 0 ||| (gB 1 <<< ((Int8.ofInt 10).toInt32 &&& 31))).toInt64 = v
  refine px_Z_its (pc1 := 20) (lv1 := [(1, .long v), (0, .ref 69)]) (st1 := [.ref 69, .long v]) (hp1 := hp) 7 (fun _ _ _ _ => by rw [← hv]; rfl) ?_
  refine px_q_get (len := 3) (ci := 9) (k := nf_aside) (fs := fs) (v := .ref na_aside) rfl rfl hx (nm_f hG hx rfl) ?_
  refine px_Z_its (pc1 := 24) (lv1 := [(1, .long v), (0, .ref 69)]) (st1 := [.int 0, .ref na_aside, .long v]) (hp1 := hp) 1 (fun _ _ _ _ => rfl) ?_
  refine px_q_iald (len := 1) rfl hA rfl rfl ?_
  refine px_Z_its (pc1 := 30) (lv1 := [(1, .long v), (0, .ref 69)]) (st1 := [.ref 69, .long (nm_sh (gA 0).toInt64 20), .long v]) (hp1 := hp) 4 (fun _ _ _ _ => rfl) ?_
  refine px_q_get (len := 3) (ci := 9) (k := nf_aside) (fs := fs) (v := .ref na_aside) rfl rfl hx (nm_f hG hx rfl) ?_
  refine px_Z_its (pc1 := 34) (lv1 := [(1, .long v), (0, .ref 69)]) (st1 := [.int 1, .ref na_aside, .long (nm_sh (gA 0).toInt64 20), .long v]) (hp1 := hp) 1 (fun _ _ _ _ => rfl) ?_
  refine px_q_iald (len := 1) rfl hA rfl rfl ?_
  refine px_Z_its (pc1 := 41) (lv1 := [(1, .long v), (0, .ref 69)]) (st1 := [.ref 69, .long (nm_sh (gA 0).toInt64 20 ||| nm_sh (gA 1).toInt64 30), .long v]) (hp1 := hp) 5 (fun _ _ _ _ => rfl) ?_
  refine px_q_get (len := 3) (ci := 9) (k := nf_putBy) (fs := fs) (v := .int pb) rfl rfl hx hpb ?_
  refine px_Z_its (pc1 := 50) (lv1 := [(1, .long v), (0, .ref 69)]) (st1 := [.ref 69, .long ((nm_sh (gA 0).toInt64 20 ||| nm_sh (gA 1).toInt64 30) ||| nm_sh pb.toInt64 40), .long v]) (hp1 := hp) 5 (fun _ _ _ _ => rfl) ?_
  refine px_q_get (len := 3) (ci := 9) (k := nf_sitting) (fs := fs) (v := .int sv) rfl rfl hx hs ?_
  generalize hw : nm_fst (gB 0) (gB 1) (gA 0) (gA 1) pb sv = w
  refine px_Z_its (pc1 := 61) (lv1 := [(1, .long w), (0, .ref 69)]) (st1 := [.long w]) (hp1 := hp) 7 (fun _ _ _ _ => by rw [← hw, ← hv]; rfl) ?_
  exact px_q_lret (len := 1) rfl rfl
/-- the bag b in an entry -/
def nm_bg0 (v : Int64) : Int32 := (v &&& Int64.ofInt 1023).toInt32
def nm_bg1 (v : Int64) : Int32 := ((v >>> ((Int8.ofInt 10).toInt32.toInt64 &&& 63)) &&& Int64.ofInt 1023).toInt32
end mg_0

section mg_1
/-! goesThrough: the bag in an entry is the bag that was -/
theorem nm_x10 {x : Int32} (h0 : 0 ≤ x.toInt) (h1 : x.toInt ≤ 1023) {i : Nat} (hi : 10 ≤ i) : x.toBitVec.getLsbD i = false := by
  obtain ⟨n, rfl, hn⟩ := nm_nat32 x h0
  have e : (Int32.ofNat n).toBitVec.toNat = n := by
    show n % 2 ^ 32 = n
    omega
  rw [BitVec.getLsbD, e]
  exact Nat.testBit_lt_two_pow (Nat.lt_of_lt_of_le (show n < 2 ^ 10 by omega) (Nat.pow_le_pow_right (by decide) hi))
theorem nm_1023 (i : Nat) : (Int64.ofInt 1023).toBitVec.getLsbD i = decide (i < 10) := by
  have e : (Int64.ofInt 1023).toBitVec.toNat = 2 ^ 10 - 1 := by decide
  rw [BitVec.getLsbD, e, Nat.testBit_two_pow_sub_one]
theorem nm_sh_b (x : Int32) (k : Int) (n : Nat) (hk : ((((Int8.ofInt k).toInt32.toInt64 &&& 63).toBitVec).smod 64).toNat = n) (i : Nat) (hi : i < n) : (nm_sh x.toInt64 k).toBitVec.getLsbD i = false := by
  unfold nm_sh
  rw [Int64.toBitVec_shiftLeft, BitVec.shiftLeft_eq', hk, BitVec.getLsbD_shiftLeft]
  simp [hi]
theorem nm_fst_b (x0 x1 a0 a1 pb sv : Int32) (i : Nat) (hi : i < 20) : (nm_fst x0 x1 a0 a1 pb sv).toBitVec.getLsbD i = (x0.toBitVec.getLsbD i || (!decide (i < 10) && x1.toBitVec.getLsbD (i - 10))) := by
  unfold nm_fst
  simp only [Int64.toBitVec_or, BitVec.getLsbD_or]
  rw [nm_sh_b a0 20 20 (by decide) i hi, nm_sh_b a1 30 30 (by decide) i (by omega), nm_sh_b pb 40 40 (by decide) i (by omega), nm_sh_b sv 50 50 (by decide) i (by omega)]
  have e : ((((Int8.ofInt 10).toInt32 &&& 31).toBitVec).smod 32).toNat = 10 := by decide
  rw [Int32.toBitVec_toInt64, BitVec.getLsbD_signExtend, Int32.toBitVec_or, Int32.toBitVec_shiftLeft, BitVec.shiftLeft_eq', e]
  simp [show i < 64 by omega, show i < 32 by omega, BitVec.getLsbD_shiftLeft]
  rw [BitVec.getLsbD_eq_getElem (show i - 10 < 32 by omega)]
theorem nm_bg0_b (v : Int64) (i : Nat) (hi : i < 32) : (nm_bg0 v).toBitVec.getLsbD i = (v.toBitVec.getLsbD i && decide (i < 10)) := by
  unfold nm_bg0
  rw [Int64.toBitVec_toInt32, BitVec.getLsbD_signExtend, Int64.toBitVec_and]
  simp only [BitVec.getLsbD_and, nm_1023]
  simp [hi, show i < 64 by omega]
theorem nm_bg1_b (v : Int64) (i : Nat) (hi : i < 32) : (nm_bg1 v).toBitVec.getLsbD i = (v.toBitVec.getLsbD (10 + i) && decide (i < 10)) := by
  unfold nm_bg1
  have e : ((((Int8.ofInt 10).toInt32.toInt64 &&& 63).toBitVec).smod 64).toNat = 10 := by decide
  rw [Int64.toBitVec_toInt32, BitVec.getLsbD_signExtend, Int64.toBitVec_and, Int64.toBitVec_shiftRight, BitVec.sshiftRight_eq', e]
  simp only [BitVec.getLsbD_and, nm_1023, BitVec.getLsbD_sshiftRight]
  simp [hi, show i < 64 by omega, show ¬ (64 ≤ i) by omega, show 10 + i < 64 by omega]
theorem nm_bg0_fst {x0 x1 a0 a1 pb sv : Int32} (h0 : 0 ≤ x0.toInt) (h1 : x0.toInt ≤ 1023) : nm_bg0 (nm_fst x0 x1 a0 a1 pb sv) = x0 := by
  apply Int32.toBitVec_inj.mp
  apply BitVec.eq_of_getLsbD_eq
  intro i hi
  rw [nm_bg0_b _ i hi]
  by_cases h : i < 10
  · rw [nm_fst_b _ _ _ _ _ _ i (by omega)]
    simp [h]
  · rw [nm_x10 h0 h1 (by omega)]
    simp [h]
theorem nm_bg1_fst {x0 x1 a0 a1 pb sv : Int32} (h0 : 0 ≤ x0.toInt) (h1 : x0.toInt ≤ 1023) (h2 : 0 ≤ x1.toInt) (h3 : x1.toInt ≤ 1023) : nm_bg1 (nm_fst x0 x1 a0 a1 pb sv) = x1 := by
  apply Int32.toBitVec_inj.mp
  apply BitVec.eq_of_getLsbD_eq
  intro i hi
  rw [nm_bg1_b _ i hi]
  by_cases h : i < 10
  · rw [nm_fst_b _ _ _ _ _ _ (10 + i) (by omega), nm_x10 h0 h1 (by omega)]
    simp [h]
  · rw [nm_x10 h2 h3 (by omega)]
    simp [h]
end mg_1

section mg_2
/-! goesThrough: what unpacks and looksAt do to the bags -/
def up_B : ac_S := ([(0, ((2, 0, 0, [69]), none)), (1, ((1, -9223372036854775808, 9223372036854775807, []), none)), (3, ((1, -9223372036854775808, 9223372036854775807, []), none))], [], [], [], [], [])
def up_ck : Bool := match ac_run nm_T nm_P nm_GH nm_FA [] [] [(69, nf_putBy), (69, nf_sitting)] [na_aside, na_satLast] 20000 true [] mi_M_unpacks mm_M_unpacks 27 up_B with
  | some o => o.1.all (fun q => match q.1 with | some _ => false | none => true) && o.2.isEmpty
  | none => false
set_option maxRecDepth 1000000 in
theorem up_ck_t : up_ck = true := by decide +kernel
theorem up_27 {hp : px_H} {lv : List (Nat × Value)} {a b : Int64} (hG : ab_h nm_GH hp) (h0 : px_find 0 lv = some (.ref 69)) (h1 : px_find 1 lv = some (.long a)) (h3 : px_find 3 lv = some (.long b)) : ∃ hp', px_Z nm_T none nm_P mm_M_unpacks 27 lv [] hp none hp' ∧ px_fr [(69, nf_putBy), (69, nf_sitting)] [na_aside, na_satLast] hp hp' := by
  have h := up_ck_t
  unfold up_ck at h
  split at h
  rotate_left
  · cases h
  rename_i o ho
  simp only [Bool.and_eq_true, List.all_eq_true] at h
  have hA : ac_s nm_GH nm_Φ (fun _ => 0) (fun _ => 0) up_B lv [] hp := by
    refine ⟨fun j a hm => ?_, trivial, hG, fun q hq => (by cases hq), fun j q hq => (by simp [up_B] at hq), fun i hi => (by cases hi), fun q hq => (by cases hq)⟩
    simp only [up_B, List.mem_cons, Prod.mk.injEq, List.not_mem_nil, or_false] at hm
    rcases hm with ⟨rfl, rfl⟩ | ⟨rfl, rfl⟩ | ⟨rfl, rfl⟩
    · exact ⟨_, h0, ⟨rfl, List.mem_cons_self⟩, ab_o_none _ _ _ _⟩
    · exact ⟨_, h1, ⟨rfl, ab_i64 _⟩, ab_o_none _ _ _ _⟩
    · exact ⟨_, h3, ⟨rfl, ab_i64 _⟩, ab_o_none _ _ _ _⟩
  rcases ac_run_ok (xs := fun _ => 0) nm_Fl nm_FG (fun _ h => absurd h List.not_mem_nil) 20000 true [] mi_M_unpacks mm_M_unpacks 27 _ o none _ lv [] hp ho hA with ⟨r, hp', oc, m1, m2, m3, m4⟩ | ⟨pc', lv', st', hp', A', m1, -⟩
  · have hs := h.1 oc m1
    have g1 := m2.1
    cases hq : oc.1 with
    | some a => rw [hq] at hs; cases hs
    | none =>
      rw [hq] at g1
      cases r with
      | some v => exact absurd g1 (by simp)
      | none => exact ⟨hp', m4, m3⟩
  · have := h.2
    rw [List.isEmpty_iff] at this
    rw [this] at m1
    cases m1
theorem nm_unpacks {hp : px_H} (hG : ab_h nm_GH hp) (a b : Int64) : ∃ (hp' : px_H) (g : Nat → Int32), px_C nm_T nm_P mi_M_unpacks [.ref 69, .long a, .long b] hp none hp' ∧ ab_h nm_GH hp' ∧ px_fr kc_M_unpacks_0.2.2.2.2.1 kc_M_unpacks_0.2.2.2.2.2 hp hp' ∧ hp'[na_inBag]? = some (.inl (nr_inBag, 2, .inl g)) ∧ g 0 = nm_bg0 a ∧ g 1 = nm_bg1 a := by
  obtain ⟨r9, hp9, o9, m1, m2, m3, m4, m5, -, m7⟩ := kp_M_unpacks_0 [.ref 69, .long a, .long b] hp hG ⟨⟨rfl, List.mem_cons_self⟩, ⟨rfl, ab_i64 _⟩, ⟨rfl, ab_i64 _⟩, trivial⟩ (fun i hi => by cases hi)
  obtain ⟨fs, hx, -, -⟩ := ac_obj hG (c := 69) rfl
  obtain ⟨gB, hB, bB⟩ := ac_arrI hG (c := na_inBag) (t := nr_inBag) (n := 2) (lo := 0) (hi := 1023) (Nat.le_of_ble_eq_true rfl) rfl
  have hl88 : na_inBag < hp.length := (List.getElem?_eq_some_iff.mp hB).1
  have hbn : ∀ x : Int32, (∀ i, 10 ≤ i → i < 32 → x.toBitVec.getLsbD i = false) → 0 ≤ x.toInt ∧ x.toInt ≤ 1023 := by
    intro x h
    have hlt : x.toBitVec.toNat < 2 ^ 10 := by
      refine Nat.lt_pow_two_of_testBit _ (fun j hj => ?_)
      by_cases h32 : j < 32
      · exact h j (by omega) h32
      · exact Nat.testBit_lt_two_pow (Nat.lt_of_lt_of_le x.toBitVec.isLt (Nat.pow_le_pow_right (by decide) (by omega)))
    have e : x.toInt = x.toBitVec.toInt := rfl
    rw [e, BitVec.toInt_eq_toNat_cond, if_pos (by omega)]
    omega
  have r0 : 0 ≤ (nm_bg0 a).toInt ∧ (nm_bg0 a).toInt ≤ 1023 := hbn _ (fun i h1 h2 => by rw [nm_bg0_b _ i h2]; simp [show ¬ i < 10 by omega])
  have r1 : 0 ≤ (nm_bg1 a).toInt ∧ (nm_bg1 a).toInt ≤ 1023 := hbn _ (fun i h1 h2 => by rw [nm_bg1_b _ i h2]; simp [show ¬ i < 10 by omega])
  have hG1 : ab_h nm_GH (hp.set na_inBag (.inl (nr_inBag, 2, .inl (upd gB 0 (nm_bg0 a))))) := nm_hI hG hB rfl bB r0.1 r0.2
  have hx1 : (hp.set na_inBag (.inl (nr_inBag, 2, .inl (upd gB 0 (nm_bg0 a)))))[69]? = some (.inr (9, fs)) := by rw [List.getElem?_set_ne (by decide)]; exact hx
  have hB1 : (hp.set na_inBag (.inl (nr_inBag, 2, .inl (upd gB 0 (nm_bg0 a)))))[na_inBag]? = some (.inl (nr_inBag, 2, .inl (upd gB 0 (nm_bg0 a)))) := List.getElem?_set_self hl88
  generalize hh1 : hp.set na_inBag (.inl (nr_inBag, 2, .inl (upd gB 0 (nm_bg0 a)))) = hp1 at hG1 hx1 hB1
  have hl1 : na_inBag < hp1.length := (List.getElem?_eq_some_iff.mp hB1).1
  obtain ⟨gB1, hB1', bB1⟩ := ac_arrI hG1 (c := na_inBag) (t := nr_inBag) (n := 2) (lo := 0) (hi := 1023) (Nat.le_of_ble_eq_true rfl) rfl
  rw [hB1] at hB1'
  cases hB1'
  have hG2 : ab_h nm_GH (hp1.set na_inBag (.inl (nr_inBag, 2, .inl (upd (upd gB 0 (nm_bg0 a)) 1 (nm_bg1 a))))) := nm_hI hG1 hB1 rfl bB1 r1.1 r1.2
  obtain ⟨hp', z1, z2⟩ := up_27 (a := a) (b := b) (lv := [(0, .ref 69), (1, .long a), (3, .long b)]) hG2 rfl rfl rfl
  have hC : px_C nm_T nm_P mi_M_unpacks [.ref 69, .long a, .long b] hp none hp' := by
    refine px_C_of (N := mm_M_unpacks) rfl (Nat.le_of_ble_eq_true rfl) ?_
    refine px_Z_its (pc1 := 1) (lv1 := [(0, .ref 69), (1, .long a), (3, .long b)]) (st1 := [.ref 69]) (hp1 := hp) 1 (fun _ _ _ _ => rfl) ?_
    refine px_q_get (len := 3) (ci := 9) (k := nf_inBag) (fs := fs) (v := .ref na_inBag) rfl rfl hx (nm_f hG hx rfl) ?_
    refine px_Z_its (pc1 := 11) (lv1 := [(0, .ref 69), (1, .long a), (3, .long b)]) (st1 := [.int (nm_bg0 a), .int 0, .ref na_inBag]) (hp1 := hp) 5 (fun _ _ _ _ => rfl) ?_
    refine px_q_iast (len := 1) rfl hB rfl rfl ?_
    rw [show (0 : Int32).toNatClampNeg = 0 from rfl, hh1]
    refine px_Z_its (pc1 := 13) (lv1 := [(0, .ref 69), (1, .long a), (3, .long b)]) (st1 := [.ref 69]) (hp1 := hp1) 1 (fun _ _ _ _ => rfl) ?_
    refine px_q_get (len := 3) (ci := 9) (k := nf_inBag) (fs := fs) (v := .ref na_inBag) rfl rfl hx1 (nm_f hG1 hx1 rfl) ?_
    refine px_Z_its (pc1 := 26) (lv1 := [(0, .ref 69), (1, .long a), (3, .long b)]) (st1 := [.int (nm_bg1 a), .int 1, .ref na_inBag]) (hp1 := hp1) 7 (fun _ _ _ _ => rfl) ?_
    refine px_q_iast (len := 1) rfl hB1 rfl rfl ?_
    exact z1
  obtain ⟨e1, e2⟩ := px_C_fun hC m2
  subst e2
  refine ⟨hp', _, hC, m3, m7, z2.1 na_inBag _ (by decide) (List.getElem?_set_self hl1), ?_, ?_⟩
  · simp [upd]
  · simp [upd]
end mg_2

section mg_3
/-- the bag that a drawing b takes from, in an entry -/
def nm_bg (b : Nat) (v : Int64) : Int32 := if b = 0 then nm_bg0 v else nm_bg1 v
theorem nm_tix (tn e : Nat) : Int32.ofNat tn * (Int16.ofInt 3001).toInt32 + Int32.ofNat e = Int32.ofNat (tn * 3001 + e) := by
  rw [show (Int16.ofInt 3001).toInt32 = Int32.ofNat 3001 from by decide, ← Int32.ofNat_mul, ← Int32.ofNat_add]
theorem nm_looks {hp : px_H} (hG : ab_h nm_GH hp) {o1 : Nat → Int64} (h1 : hp[na_one]? = some (.inl (nr_one, 9003, .inr (.inl o1)))) {tn e : Nat} (htn : tn ≤ 2) (he : e < 3001) : ∃ (hp' : px_H) (g : Nat → Int32), px_C nm_T nm_P mi_M_looksAt [.ref 69, .int (Int32.ofNat tn), .int (Int32.ofNat e)] hp none hp' ∧ ab_h nm_GH hp' ∧ px_fr kc_M_unpacks_0.2.2.2.2.1 kc_M_unpacks_0.2.2.2.2.2 hp hp' ∧
    hp'[na_inBag]? = some (.inl (nr_inBag, 2, .inl g)) ∧ ∀ b, b < 2 → g b = nm_bg b (o1 (tn * 3001 + e)) := by
  obtain ⟨fs, hx, -, -⟩ := ac_obj hG (c := 69) rfl
  obtain ⟨o2, h2, -⟩ := ac_arrL hG (c := na_other) (t := nr_other) (n := 9003) (Nat.le_of_ble_eq_true rfl) rfl
  obtain ⟨hp', g, c1, c2, c3, c4, c5, c6⟩ := nm_unpacks hG (o1 (tn * 3001 + e)) (o2 (tn * 3001 + e))
  have hin := nm_inR (tn * 3001 + e) 9003 (by omega) (by decide)
  have hcl := nm_ofNat_clamp (tn * 3001 + e) (by omega)
  refine ⟨hp', g, ?_, c2, c3, c4, fun b hb => ?_⟩
  · refine px_C_of (N := mm_M_looksAt) rfl (Nat.le_of_ble_eq_true rfl) ?_
    refine px_Z_its (pc1 := 2) (lv1 := [(0, .ref 69), (1, .int (Int32.ofNat tn)), (2, .int (Int32.ofNat e))]) (st1 := [.ref 69, .ref 69]) (hp1 := hp) 2 (fun _ _ _ _ => rfl) ?_
    refine px_q_get (len := 3) (ci := 9) (k := nf_one) (fs := fs) (v := .ref na_one) rfl rfl hx (nm_f hG hx rfl) ?_
    refine px_Z_its (pc1 := 12) (lv1 := [(0, .ref 69), (1, .int (Int32.ofNat tn)), (2, .int (Int32.ofNat e))]) (st1 := [.int (Int32.ofNat (tn * 3001 + e)), .ref na_one, .ref 69]) (hp1 := hp) 5 (fun _ _ _ _ => by rw [← nm_tix]; rfl) ?_
    refine px_q_lald (len := 1) rfl h1 rfl hin ?_
    rw [hcl]
    refine px_Z_its (pc1 := 14) (lv1 := [(0, .ref 69), (1, .int (Int32.ofNat tn)), (2, .int (Int32.ofNat e))]) (st1 := [.ref 69, .long (o1 (tn * 3001 + e)), .ref 69]) (hp1 := hp) 1 (fun _ _ _ _ => rfl) ?_
    refine px_q_get (len := 3) (ci := 9) (k := nf_other) (fs := fs) (v := .ref na_other) rfl rfl hx (nm_f hG hx rfl) ?_
    refine px_Z_its (pc1 := 24) (lv1 := [(0, .ref 69), (1, .int (Int32.ofNat tn)), (2, .int (Int32.ofNat e))]) (st1 := [.int (Int32.ofNat (tn * 3001 + e)), .ref na_other, .long (o1 (tn * 3001 + e)), .ref 69]) (hp1 := hp) 5 (fun _ _ _ _ => by rw [← nm_tix]; rfl) ?_
    refine px_q_lald (len := 1) rfl h2 rfl hin ?_
    rw [hcl]
    refine px_q_virt (len := 3) (n := 2) (a := 69) (N := mm_M_unpacks) (mi := mi_M_unpacks) (ci := 9) rfl rfl rfl hx rfl (Nat.le_of_ble_eq_true rfl) (Nat.le_of_ble_eq_true rfl) rfl rfl c1 ?_
    exact px_q_ret (len := 1) rfl rfl
  · unfold nm_bg
    match b, hb with
    | 0, _ => rw [if_pos rfl]; exact c5
    | 1, _ => rw [if_neg (by decide)]; exact c6
/-- what adds would lay down holds the bags as they are -/
theorem nm_fst_bg {gB gA : Nat → Int32} {pb sv : Int32} (h : ∀ j, j < 2 → 0 ≤ (gB j).toInt ∧ (gB j).toInt ≤ 1023) {b : Nat} (hb : b < 2) : nm_bg b (nm_fst (gB 0) (gB 1) (gA 0) (gA 1) pb sv) = gB b := by
  unfold nm_bg
  match b, hb with
  | 0, _ => rw [if_pos rfl]; exact nm_bg0_fst (h 0 (by decide)).1 (h 0 (by decide)).2
  | 1, _ => rw [if_neg (by decide)]; exact nm_bg1_fst (h 0 (by decide)).1 (h 0 (by decide)).2 (h 1 (by decide)).1 (h 1 (by decide)).2
end mg_3

section mg_4
/-! adds once more: what is laid down, exactly -/
set_option maxRecDepth 100000 in
theorem nm_adds_A {hp : px_H} (hG : ab_h nm_GH hp) {tn : Nat} (htn : tn ≤ 2) (hi : nm_HI tn hp) (ch : Int64) {fs : List Value} (hx9 : hp[69]? = some (.inr (9, fs))) {gB gA : Nat → Int32} {pb sv : Int32} (hB : hp[na_inBag]? = some (.inl (nr_inBag, 2, .inl gB))) (hA : hp[na_aside]? = some (.inl (nr_aside, 2, .inl gA))) (hpb : fs[nf_putBy]? = some (.int pb)) (hsv : fs[nf_sitting]? = some (.int sv)) :
    ∃ (r : Option Value) (hp' : px_H) (f g : Nat → Int32) (o1 o2 pt : Nat → Int64) (b : Int64), px_C nm_T nm_P mi_M_adds [.ref 69, .int (Int32.ofNat tn), .long ch] hp r hp' ∧ ab_h nm_GH hp' ∧ nm_HI tn hp' ∧ px_fr [] [na_one, na_other, na_part, na_size, na_hash] hp hp' ∧ (r = some (.int (Int32.ofInt 1)) ∨ r = some (.int (Int32.ofInt 0))) ∧
      hp[na_hash]? = some (.inl (nr_hash, 24576, .inl f)) ∧ hp[na_size]? = some (.inl (nr_size, 3, .inl g)) ∧ hp[na_one]? = some (.inl (nr_one, 9003, .inr (.inl o1))) ∧ (∀ j, j < 3 → 0 ≤ (g j).toInt ∧ (g j).toInt ≤ 3000) ∧ nm_AR hp f g o1 o2 pt tn (nm_fst (gB 0) (gB 1) (gA 0) (gA 1) pb sv) b ch r hp' := by
  obtain ⟨vs, h69, hrf⟩ := nm_mod hG
  obtain ⟨f, hf, hfb⟩ := ac_arrI hG (c := na_hash) (by decide) rfl
  obtain ⟨g, hg, hgb⟩ := ac_arrI hG (c := na_size) (by decide) rfl
  obtain ⟨o1, h1, -⟩ := ac_arrL hG (c := na_one) (by decide) rfl
  obtain ⟨o2, h2, -⟩ := ac_arrL hG (c := na_other) (by decide) rfl
  obtain ⟨pt, hq, -⟩ := ac_arrL hG (c := na_part) (by decide) rfl
  obtain ⟨th, ts, f', g', e1, e2, hcnt⟩ := hi
  rw [hf] at e1
  rw [hg] at e2
  cases e1
  cases e2
  have hgt := hgb tn (by omega)
  obtain ⟨z, hz, hze⟩ := nm_cnt_slot (f := f) (lo := tn * 8192) (n := 8192) (by omega)
  obtain ⟨r1, q1, m1, c1, v1⟩ := nm_pure kp_M_first_0 rfl rfl rfl hG (av := [.ref 69]) ⟨⟨rfl, List.mem_singleton.mpr rfl⟩, trivial⟩
  obtain ⟨r2, q2, m2, c2, v2⟩ := nm_pure kp_M_second_0 rfl rfl rfl hG (av := [.ref 69]) ⟨⟨rfl, List.mem_singleton.mpr rfl⟩, trivial⟩
  cases List.mem_singleton.mp m1
  cases List.mem_singleton.mp m2
  obtain ⟨a, rfl⟩ := nm_rv1 v1
  have ea := (px_C_fun c1 (nm_first_C hG hx9 hB hA hpb hsv)).1
  simp only [Option.some.injEq, Value.long.injEq] at ea
  obtain ⟨b, rfl⟩ := nm_rv1 v2
  obtain ⟨r3, q3, m3, c3, v3⟩ := nm_pure kp_M_placeOf_0 rfl rfl rfl hG (av := [.long a, .long b]) ⟨nm_bL a, nm_bL b, trivial⟩
  cases List.mem_singleton.mp m3
  obtain ⟨x, rfl, hx1, hx2⟩ := nm_rv0 v3
  have hxe := nm_ofC x hx1
  have hk : x.toNatClampNeg < 8192 := by unfold Int32.toNatClampNeg; omega
  obtain ⟨r, hp', hZ, hres⟩ := nm_adds_l0 (a := a) (b := b) (ch := ch) h69 hrf hf hg h1 h2 hq htn hfb hgb hz hze x.toNatClampNeg hk
  rw [hxe] at hZ
  obtain ⟨k1, k2, k3, k4⟩ := nm_AR_ok hG hf hg h1 h2 hq hfb hgb hcnt hres
  refine ⟨r, hp', f, g, o1, o2, pt, b, px_C_of (N := mm_M_adds) rfl (Nat.le_of_ble_eq_true rfl) ?_, k1, k2, k3, k4, hf, hg, h1, hgb, ea ▸ hres⟩
  refine px_Z_its (pc1 := 1) (lv1 := [(0, .ref 69), (1, .int (Int32.ofNat tn)), (2, .long ch)]) (st1 := [.ref 69]) (hp1 := hp) 1 (fun _ _ _ _ => rfl) ?_
  refine px_q_virt (st := [.ref 69]) (len := 3) (idx := 185) (mi := mi_M_first) (n := 0) (a := 69) (ci := 9) (fs := vs) (N := mm_M_first) rfl rfl rfl h69 rfl (Nat.le_of_ble_eq_true rfl) (Nat.le_of_ble_eq_true rfl) rfl rfl c1 ?_
  refine px_Z_its (pc1 := 7) (lv1 := [(4, .long a), (0, .ref 69), (1, .int (Int32.ofNat tn)), (2, .long ch)]) (st1 := [.ref 69]) (hp1 := hp) 2 (fun _ _ _ _ => rfl) ?_
  refine px_q_virt (st := [.ref 69]) (len := 3) (idx := 193) (mi := mi_M_second) (n := 0) (a := 69) (ci := 9) (fs := vs) (N := mm_M_second) rfl rfl rfl h69 rfl (Nat.le_of_ble_eq_true rfl) (Nat.le_of_ble_eq_true rfl) rfl rfl c2 ?_
  refine px_Z_its (pc1 := 16) (lv1 := [(6, .long b), (4, .long a), (0, .ref 69), (1, .int (Int32.ofNat tn)), (2, .long ch)]) (st1 := [.long b, .long a]) (hp1 := hp) 3 (fun _ _ _ _ => rfl) ?_
  refine px_q_stat (st := [.long b, .long a]) (len := 3) (idx := 269) (mi := mi_M_placeOf) (n := 2) (z := 0) (N := mm_M_placeOf) rfl rfl rfl (Nat.le_of_ble_eq_true rfl) (Nat.le_of_ble_eq_true rfl) rfl rfl c3 ?_
  exact px_Z_its (pc1 := 21) (lv1 := [(8, .int x), (6, .long b), (4, .long a), (0, .ref 69), (1, .int (Int32.ofNat tn)), (2, .long ch)]) (st1 := []) (hp1 := hp) 1 (fun _ _ _ _ => rfl) hZ
end mg_4

section mg_5
/-! goesThrough: what holds of all entries of a table -/
def nm_TE (t : Nat) (Q : Nat → Int64 → Prop) (hp : px_H) : Prop := ∃ (g : Nat → Int32) (o1 : Nat → Int64), hp[na_size]? = some (.inl (nr_size, 3, .inl g)) ∧ hp[na_one]? = some (.inl (nr_one, 9003, .inr (.inl o1))) ∧ ∀ e : Nat, (e : Int) < (g t).toInt → Q e (o1 (t * 3001 + e))
theorem nm_cnt_cg {f f' : Nat → Int32} {lo : Nat} : ∀ n : Nat, (∀ j, j < n → f (lo + j) = f' (lo + j)) → nm_cnt f lo n = nm_cnt f' lo n
  | 0, _ => rfl
  | n + 1, h => by
    unfold nm_cnt
    rw [nm_cnt_cg n (fun j hj => h j (by omega)), h n (by omega)]
theorem nm_TE_fr {t : Nat} {Q : Nat → Int64 → Prop} {hp hp' : px_H} {ws : List (Nat × Nat)} {wa : List Nat} (h : px_fr ws wa hp hp') (h1 : na_size ∉ wa) (h2 : na_one ∉ wa) (hT : nm_TE t Q hp) : nm_TE t Q hp' := by
  obtain ⟨g, o1, a1, a2, a3⟩ := hT
  exact ⟨g, o1, h.1 _ _ h1 a1, h.1 _ _ h2 a2, a3⟩
theorem nm_HI_fr {t : Nat} {hp hp' : px_H} {ws : List (Nat × Nat)} {wa : List Nat} (h : px_fr ws wa hp hp') (h1 : nm_cHash ∉ wa) (h2 : nm_cSize ∉ wa) (hT : nm_HI t hp) : nm_HI t hp' := by
  obtain ⟨th, ts, f, g, a1, a2, a3⟩ := hT
  exact ⟨th, ts, f, g, h.1 _ _ h1 a1, h.1 _ _ h2 a2, a3⟩
theorem nm_adds_B {hp : px_H} (hG : ab_h nm_GH hp) {tn : Nat} (htn : tn ≤ 2) (hi : nm_HI tn hp) (ch : Int64) {fs : List Value} (hx9 : hp[69]? = some (.inr (9, fs))) {gB gA : Nat → Int32} {pb sv : Int32} (hB : hp[na_inBag]? = some (.inl (nr_inBag, 2, .inl gB))) (hA : hp[na_aside]? = some (.inl (nr_aside, 2, .inl gA))) (hpb : fs[nf_putBy]? = some (.int pb)) (hsv : fs[nf_sitting]? = some (.int sv)) :
    ∃ (r : Option Value) (hp' : px_H), px_C nm_T nm_P mi_M_adds [.ref 69, .int (Int32.ofNat tn), .long ch] hp r hp' ∧ ab_h nm_GH hp' ∧ px_fr [] [na_one, na_other, na_part, na_size, na_hash] hp hp' ∧ (r = some (.int (Int32.ofInt 1)) ∨ r = some (.int (Int32.ofInt 0))) ∧ (∀ t, t ≤ 2 → nm_HI t hp → nm_HI t hp') ∧
      (∀ (t : Nat) (Q : Nat → Int64 → Prop), t ≤ 2 → (t ≠ tn ∨ ∀ e, Q e (nm_fst (gB 0) (gB 1) (gA 0) (gA 1) pb sv)) → nm_TE t Q hp → nm_TE t Q hp') ∧
      ∀ g : Nat → Int32, hp[na_size]? = some (.inl (nr_size, 3, .inl g)) → ∃ g' : Nat → Int32, hp'[na_size]? = some (.inl (nr_size, 3, .inl g')) ∧ ∀ t, t ≠ tn → g' t = g t := by
  obtain ⟨r, hp', f, g, o1, o2, pt, b, c1, c2, c3, c4, c5, c6, c7, c8, c9, c10⟩ := nm_adds_A hG htn hi ch hx9 hB hA hpb hsv
  refine ⟨r, hp', c1, c2, c4, c5, ?_, ?_, ?_⟩
  · intro t ht hit
    by_cases htt : t = tn
    · subst htt; exact c3
    obtain ⟨th, ts, f', g', e1, e2, e3⟩ := hit
    rw [show nm_cHash = na_hash from rfl, c6] at e1
    rw [show nm_cSize = na_size from rfl, c7] at e2
    cases e1
    cases e2
    rcases c10 with ⟨e, he, a1, a2, -, rfl⟩ | ⟨-, -, rfl⟩ | ⟨k, e, hk, -, hge, he, -, rfl⟩
    · exact ⟨_, _, f, g, by rw [List.getElem?_set_ne (by decide)]; exact c6, by rw [List.getElem?_set_ne (by decide)]; exact c7, e3⟩
    · exact ⟨_, _, f, g, c6, c7, e3⟩
    · refine ⟨_, _, _, _, by rw [List.getElem?_set_ne (by decide), List.getElem?_set_ne (by decide), List.getElem?_set_ne (by decide), List.getElem?_set_ne (by decide)]; exact List.getElem?_set_self (List.getElem?_eq_some_iff.mp c6).1, List.getElem?_set_self (by simp only [List.length_set]; exact (List.getElem?_eq_some_iff.mp c7).1), ?_⟩
      rw [nm_cnt_cg (f' := f) 8192 (fun j hj => by simp only [upd]; rw [if_neg (by omega)])]
      simp only [upd]
      rw [if_neg htt]
      exact e3
  · intro t Q ht hQ hT
    obtain ⟨g', o', e1, e2, e3⟩ := hT
    rw [c7] at e1
    rw [c8] at e2
    cases e1
    cases e2
    rcases c10 with ⟨e, he, a1, a2, -, rfl⟩ | ⟨-, -, rfl⟩ | ⟨k, e, hk, -, hge, he, -, rfl⟩
    · exact ⟨g, o1, by rw [List.getElem?_set_ne (by decide)]; exact c7, by rw [List.getElem?_set_ne (by decide)]; exact c8, e3⟩
    · exact ⟨g, o1, c7, c8, e3⟩
    · refine ⟨_, _, List.getElem?_set_self (by simp only [List.length_set]; exact (List.getElem?_eq_some_iff.mp c7).1), by rw [List.getElem?_set_ne (by decide), List.getElem?_set_ne (by decide), List.getElem?_set_ne (by decide)]; exact List.getElem?_set_self (by simp only [List.length_set]; exact (List.getElem?_eq_some_iff.mp c8).1), ?_⟩
      intro e' he'
      have hgt := c9 t (by omega)
      have hee : (Int32.ofNat e + Int32.ofInt 1).toInt = e + 1 := by
        rw [show Int32.ofNat e + Int32.ofInt 1 = Int32.ofNat (e + 1) from by rw [Int32.ofNat_add]; rfl, nm_ofNat_toInt (e + 1) (by omega)]
        omega
      have hgn : (g tn).toInt = e := by rw [hge]; exact nm_ofNat_toInt e (by omega)
      simp only [upd] at he'
      simp only [vp_updL]
      by_cases htt : t = tn
      · subst htt
        rw [if_pos rfl, hee] at he'
        by_cases hE : e' = e
        · subst hE
          rw [if_pos rfl]
          rcases hQ with hQ | hQ
          · exact absurd rfl hQ
          · exact hQ _
        · rw [if_neg (by omega)]
          exact e3 e' (by omega)
      · rw [if_neg htt] at he'
        rw [if_neg (by omega)]
        exact e3 e' he'
  · intro g9 h9
    rw [c7] at h9
    cases h9
    rcases c10 with ⟨e, he, a1, a2, -, rfl⟩ | ⟨-, -, rfl⟩ | ⟨k, e, hk, -, hge, he, -, rfl⟩
    · exact ⟨g, by rw [List.getElem?_set_ne (by decide)]; exact c7, fun _ _ => rfl⟩
    · exact ⟨g, c7, fun _ _ => rfl⟩
    · exact ⟨_, List.getElem?_set_self (by simp only [List.length_set]; exact (List.getElem?_eq_some_iff.mp c7).1), fun t ht => by simp only [upd]; rw [if_neg ht]⟩
end mg_5

section mg_6
/-! goesThrough: drawsFrom, the loop -/
theorem px_q_ll {T : px_T} {X : Option (Nat × (Nat → Int32))} {P : List px_M} {M : px_M} {pc len j : Nat} {lv : List (Nat × Value)} {st : List Value} {hp hp' : px_H} {r : Option Value} {a : Int64} (hf : px_find pc (px_cd M) = some (len, .lload j)) (hv : px_find j lv = some (.long a)) (hR : px_Z T X P M (pc + len) lv (.long a :: st) hp r hp') : px_Z T X P M pc lv st hp r hp' :=
  px_Z_its 1 (fun call N0 nc ns => by simp only [px_its, px_step, hf, px_alu, hv]) hR
theorem px_q_ldiv {T : px_T} {X : Option (Nat × (Nat → Int32))} {P : List px_M} {M : px_M} {pc len : Nat} {lv : List (Nat × Value)} {st : List Value} {hp hp' : px_H} {r : Option Value} {x y : Int64} (hf : px_find pc (px_cd M) = some (len, .ldiv)) (hy : y ≠ 0) (hR : px_Z T X P M (pc + len) lv (.long (x / y) :: st) hp r hp') : px_Z T X P M pc lv (.long y :: .long x :: st) hp r hp' :=
  px_Z_its 1 (fun call N0 nc ns => by simp only [px_its, px_step, hf, px_alu, px_llz, if_neg hy]) hR
abbrev df_ws : List (Nat × Nat) := [(69, nf_putBy), (69, nf_sitting), (69, nf_drawnSum), (69, nf_vainSum)]
abbrev df_wa : List Nat := [na_inBag, na_aside, na_satLast, na_one, na_other, na_part, na_size, na_hash]
/-- what drawsFrom stands on and keeps -/
def df_K (o : Nat → Int64) (G0 : Int32) (gO : Nat → Int32) (b : Nat) (c : Int) (hp : px_H) : Prop :=
  ab_h nm_GH hp ∧ (∀ t, t ≤ 2 → nm_HI t hp) ∧ nm_TE 0 (fun e v => v = o e) hp ∧ nm_TE 1 (fun _ v => (nm_bc (nm_bg b v)).toInt ≤ c) hp ∧ (∃ g : Nat → Int32, hp[na_size]? = some (.inl (nr_size, 3, .inl g)) ∧ g 0 = G0) ∧ hp[na_bagOf]? = some (.inl (nr_bagOf, 6, .inl gO))
theorem df_K_fr {o : Nat → Int64} {G0 : Int32} {gO : Nat → Int32} {b : Nat} {c : Int} {hp hp' : px_H} {ws : List (Nat × Nat)} {wa : List Nat} (h : px_fr ws wa hp hp') (hG : ab_h nm_GH hp') (h1 : na_size ∉ wa) (h2 : na_one ∉ wa) (h3 : na_hash ∉ wa) (h4 : na_bagOf ∉ wa) (hK : df_K o G0 gO b c hp) : df_K o G0 gO b c hp' := by
  obtain ⟨-, a2, a3, a4, ⟨g, a5, a6⟩, a7⟩ := hK
  exact ⟨hG, fun t ht => nm_HI_fr h h3 h1 (a2 t ht), nm_TE_fr h h1 h2 a3, nm_TE_fr h h1 h2 a4, ⟨g, h.1 _ _ h1 a5, a6⟩, h.1 _ _ h4 a7⟩
theorem nm_fJ {hp : px_H} {fs : List Value} (hG : ab_h nm_GH hp) (hx : hp[69]? = some (.inr (9, fs))) {k : Nat} {a b : Int} (h : ac_f1 nm_GH 9 k 69 = some (1, a, b, [])) : ∃ x : Int64, fs[k]? = some (.long x) := by
  obtain ⟨vs', v, e1, e2, e3, -⟩ := ac_f1_ok hG h
  rw [hx] at e1
  cases e1
  obtain ⟨x, rfl, hb⟩ := ab_f1 e3
  exact ⟨x, e2⟩
set_option maxHeartbeats 4000000 in
theorem df_loop {o : Nat → Int64} {G0 : Int32} {gO : Nat → Int32} {b i : Nat} {c : Int} {d bo w : Int32} {pt : Int64} (d0 : 0 ≤ d.toInt) (d5 : d.toInt ≤ 5) (hbo : gO d.toNatClampNeg = bo) (b0 : 0 ≤ bo.toInt) (b1 : bo.toInt ≤ 1) (hb : bo.toNatClampNeg = b) (hi : (i : Int) < G0.toInt) (hi3 : i < 3000) (hw : nm_bg b (o i) = w) (w0 : 0 ≤ w.toInt) (w1 : w.toInt ≤ 1023) (hwc : (nm_bc w).toInt ≤ c + 1) (hcz : (nm_bc w).toInt64 ≠ 0) :
    ∀ (m : Nat) (lv : List (Nat × Value)) (hp : px_H) (p : Int32), df_K o G0 gO b c hp → px_find 0 lv = some (.ref 69) → px_find 1 lv = some (.int (Int32.ofNat i)) → px_find 2 lv = some (.int d) → px_find 3 lv = some (.int w) → px_find 4 lv = some (.int (nm_bc w)) → px_find 5 lv = some (.long pt) → px_find 7 lv = some (.int p) → 0 ≤ p.toInt → p.toInt ≤ 10 → 10 - p.toInt < m →
    ∃ (r : Int32) (hp' : px_H), px_Z nm_T none nm_P mm_M_drawsFrom 48 lv [] hp (some (.int r)) hp' ∧ (r = 0 ∨ r = 1) ∧ df_K o G0 gO b c hp' ∧ px_fr df_ws df_wa hp hp' := by
  intro m
  induction m with
  | zero => intro lv hp p _ _ _ _ _ _ _ _ h1 h2 h3; omega
  | succ m ih =>
    intro lv hp p hK l0 l1 l2 l3 l4 l5 l7 p0 p10 hm
    obtain ⟨hG, hH, hT0, hT1, ⟨g, hg, hg0⟩, hO⟩ := hK
    obtain ⟨fs, hx, -, -⟩ := ac_obj hG (c := 69) rfl
    obtain ⟨ps, hps, ps0, ps9⟩ := nm_fI hG hx (k := nf_persons) (a := 0) (b := 10) rfl
    have head : ∀ (bb : Bool) (r : Option Value) (hp' : px_H), px_cmp .ge p ps = bb → px_Z nm_T none nm_P mm_M_drawsFrom (bif bb then 126 else 57) lv [] hp r hp' → px_Z nm_T none nm_P mm_M_drawsFrom 48 lv [] hp r hp' := by
      intro bb r hp' hc h
      refine px_q_il (len := 2) (j := 7) rfl l7 ?_
      refine px_q_aln (len := 1) (j := 0) rfl l0 ?_
      refine px_q_get (len := 3) (ci := 9) (k := nf_persons) (fs := fs) (v := .int ps) rfl rfl hx hps ?_
      refine px_q_icmp (bb := bb) (len := 3) (c := .ge) (off := 72) rfl hc ?_
      cases bb
      · exact h
      · exact h
    by_cases hpp : ps.toInt ≤ p.toInt
    · refine ⟨1, hp, head true _ _ ?_ ?_, Or.inr rfl, ⟨hG, hH, hT0, hT1, ⟨g, hg, hg0⟩, hO⟩, px_fr_rf _ _ _⟩
      · simp only [px_cmp, decide_eq_true_eq, ge_iff_le, Int32.le_iff_toInt_le]; exact hpp
      · refine px_Z_its (pc1 := 127) (lv1 := lv) (st1 := [.int 1]) (hp1 := hp) 1 (fun _ _ _ _ => rfl) ?_
        exact px_q_iret (len := 1) (ty := .boolean) rfl rfl rfl
    have hge : px_cmp .ge p ps = false := by simp only [px_cmp, decide_eq_false_iff_not, ge_iff_le, Int32.le_iff_toInt_le]; exact hpp
    have p1 : (p + Int32.ofInt 1).toInt = p.toInt + 1 := by
      rw [Int32.toInt_add, show (Int32.ofInt 1).toInt = 1 from by decide]
      apply Int.bmod_eq_of_le <;> omega
    have inc : ∀ hq : px_H, df_K o G0 gO b c hq → ∃ (r : Int32) (hp' : px_H), px_Z nm_T none nm_P mm_M_drawsFrom 120 lv [] hq (some (.int r)) hp' ∧ (r = 0 ∨ r = 1) ∧ df_K o G0 gO b c hp' ∧ px_fr df_ws df_wa hq hp' := by
      intro hq hKq
      obtain ⟨r, hp', z1, z2, z3, z4⟩ := ih (px_st1 lv 7 (.int (p + Int32.ofInt 1))) hq (p + Int32.ofInt 1) hKq (px_st1_nr l0) (px_st1_ne l1) (px_st1_ne l2) (px_st1_ne l3) (px_st1_ne l4) (ab_sto1_find l5 (by decide) (fun h => absurd h (by decide))) (px_st1_at _ _ _) (by omega) (by omega) (by omega)
      refine ⟨r, hp', ?_, z2, z3, z4⟩
      refine px_q_iinc (len := 3) (j := 7) (n := 1) rfl l7 rfl ?_
      exact px_Z_its (pc1 := 48) (lv1 := px_st1 lv 7 (.int (p + Int32.ofInt 1))) (st1 := []) (hp1 := hq) 1 (fun _ _ _ _ => rfl) z1
    by_cases hbit : nm_hb w p = 1
    rotate_left
    · obtain ⟨r, hp', z1, z2, z3, z4⟩ := inc hp ⟨hG, hH, hT0, hT1, ⟨g, hg, hg0⟩, hO⟩
      refine ⟨r, hp', head false _ _ hge ?_, z2, z3, z4⟩
      refine px_q_iln (len := 1) (j := 3) rfl l3 ?_
      refine px_q_il (len := 2) (j := 7) rfl l7 ?_
      refine px_q_stat (len := 3) (n := 2) (N := mm_M_has) (mi := mi_M_has) rfl rfl rfl (Nat.le_of_ble_eq_true rfl) (Nat.le_of_ble_eq_true rfl) rfl rfl (nm_has_C w p hp) ?_
      rw [if_neg hbit]
      refine px_q_if (bb := false) (len := 3) (c := .ne) (off := 6) rfl (by decide) ?_
      exact px_Z_its (pc1 := 120) (lv1 := lv) (st1 := []) (hp1 := hp) 1 (fun _ _ _ _ => rfl) z1
    have hT0' := hT0
    obtain ⟨gq, o1, s1, s2, s3⟩ := hT0'
    rw [hg] at s1
    cases s1
    have ho1 : o1 (0 * 3001 + i) = o i := s3 i (by rw [hg0]; exact hi)
    obtain ⟨hp1, gB, c1, c2, c3, c4, c5⟩ := nm_looks hG s2 (tn := 0) (e := i) (by decide) (by omega)
    have hK1 : df_K o G0 gO b c hp1 := df_K_fr c3 c2 (by decide) (by decide) (by decide) (by decide) ⟨hG, hH, hT0, hT1, ⟨g, hg, hg0⟩, hO⟩
    have hb2 : b < 2 := by rw [← hb]; unfold Int32.toNatClampNeg; omega
    have hgw : gB bo.toNatClampNeg = w := by rw [hb, c5 b hb2, ho1, hw]
    obtain ⟨fs1, hx1, -, -⟩ := ac_obj c2 (c := 69) rfl
    obtain ⟨sv1, hs1, -, -⟩ := nm_fI c2 hx1 (k := nf_sitting) (a := 0) (b := 1023) rfl
    obtain ⟨vs, hvs⟩ := nm_fJ c2 hx1 (k := nf_vainSum) (a := -9223372036854775808) (b := 9223372036854775807) rfl
    obtain ⟨r, hp2, fs2, e1, e2, e3, e4, e5, e6, e7⟩ := nm_takes c2 hx1 (p := p) c4 hK1.2.2.2.2.2 hs1 d0 d5 p0 (by omega) hbo b0 b1
    have hK2 : df_K o G0 gO b c hp2 := df_K_fr e3 e2 (by decide) (by decide) (by decide) (by decide) hK1
    have hl69 : 69 < hp2.length := (List.getElem?_eq_some_iff.mp e6).1
    obtain ⟨vs2, hvs2⟩ := nm_fJ e2 e6 (k := nf_vainSum) (a := -9223372036854775808) (b := 9223372036854775807) rfl
    have hkv : nf_vainSum < fs2.length := (List.getElem?_eq_some_iff.mp hvs2).1
    have bits := nm_bits (s := 0) (w := w) (p := p) (by decide) (by decide) w0 w1 p0 (by omega) hbit Int32.zero_and
    -- the new sum
    have rest : ∀ x : Int64, ∃ (r9 : Int32) (hp' : px_H), px_Z nm_T none nm_P mm_M_drawsFrom 101 lv [.long x, .ref 69] hp2 (some (.int r9)) hp' ∧ (r9 = 0 ∨ r9 = 1) ∧ df_K o G0 gO b c hp' ∧ px_fr df_ws df_wa hp2 hp' := by
      intro x
      have hG3 : ab_h nm_GH (hp2.set 69 (.inr (9, fs2.set nf_vainSum (.long x)))) := nm_h_obj e2 e6 (f := (1, -9223372036854775808, 9223372036854775807, [])) (fun FS h => by cases h; rfl) ⟨rfl, ab_i64 _⟩
      have hf3 : px_fr df_ws df_wa hp2 (hp2.set 69 (.inr (9, fs2.set nf_vainSum (.long x)))) := px_fr_obj e6 (by decide)
      have hf3' : px_fr [(69, nf_vainSum)] [] hp2 (hp2.set 69 (.inr (9, fs2.set nf_vainSum (.long x)))) := px_fr_obj e6 (by decide)
      have hx3 : (hp2.set 69 (.inr (9, fs2.set nf_vainSum (.long x))))[69]? = some (.inr (9, fs2.set nf_vainSum (.long x))) := List.getElem?_set_self hl69
      have hB3 : (hp2.set 69 (.inr (9, fs2.set nf_vainSum (.long x))))[na_inBag]? = some (.inl (nr_inBag, 2, .inl (upd gB bo.toNatClampNeg (nm_out (gB bo.toNatClampNeg) p)))) := by rw [List.getElem?_set_ne (by decide)]; exact e5
      have hK3 := df_K_fr hf3' hG3 (by decide) (by decide) (by decide) (by decide) hK2
      generalize hh3 : hp2.set 69 (.inr (9, fs2.set nf_vainSum (.long x))) = hp3 at hG3 hf3 hx3 hB3 hK3
      obtain ⟨gA, hA3, -⟩ := ac_arrI hG3 (c := na_aside) (t := nr_aside) (n := 2) (lo := 0) (hi := 1023) (Nat.le_of_ble_eq_true rfl) rfl
      obtain ⟨pb, hpb, -, -⟩ := nm_fI hG3 hx3 (k := nf_putBy) (a := 0) (b := 1023) rfl
      obtain ⟨sv, hsv, -, -⟩ := nm_fI hG3 hx3 (k := nf_sitting) (a := 0) (b := 1023) rfl
      obtain ⟨gB', hB3', bB⟩ := ac_arrI hG3 (c := na_inBag) (t := nr_inBag) (n := 2) (lo := 0) (hi := 1023) (Nat.le_of_ble_eq_true rfl) rfl
      rw [hB3] at hB3'
      cases hB3'
      obtain ⟨ra, hp4, f1, f2, f3, f4, f5, f6, f7⟩ := nm_adds_B hG3 (tn := 1) (by decide) (hK3.2.1 1 (by decide)) (pt / (nm_bc w).toInt64) hx3 hB3 hA3 hpb hsv
      have hK4 : df_K o G0 gO b c hp4 := by
        obtain ⟨-, k2, k3, k4, ⟨g3, k5, k6⟩, k7⟩ := hK3
        obtain ⟨g4, j1, j2⟩ := f7 g3 k5
        refine ⟨f2, fun t ht => f5 t ht (k2 t ht), f6 0 _ (by decide) (Or.inl (by decide)) k3, f6 1 _ (by decide) (Or.inr (fun e => ?_)) k4, ⟨g4, j1, by rw [j2 0 (by decide)]; exact k6⟩, f3.1 _ _ (by decide) k7⟩
        rw [nm_fst_bg bB hb2]
        simp only [upd, hb]
        have hgw2 : gB b = w := by rw [← hb]; exact hgw
        rw [if_pos trivial, hgw2]
        omega
      have hf4 : px_fr df_ws df_wa hp2 hp4 := px_fr_tr hf3 (px_fr_mono f3 (by decide) (by decide))
      have pre : ∀ (r9 : Option Value) (h9 : px_H), px_Z nm_T none nm_P mm_M_drawsFrom 115 lv ra.toList hp4 r9 h9 → px_Z nm_T none nm_P mm_M_drawsFrom 101 lv [.long x, .ref 69] hp2 r9 h9 := by
        intro r9 h9 h
        refine px_q_putf (len := 3) (ci := 9) (k := nf_vainSum) (fs := fs2) rfl rfl e6 hkv rfl rfl rfl rfl ?_
        rw [hh3]
        refine px_q_aln (len := 1) (j := 0) rfl l0 ?_
        refine px_Z_its (pc1 := 106) (lv1 := lv) (st1 := [.int (Int32.ofNat 1), .ref 69]) (hp1 := hp3) 1 (fun _ _ _ _ => rfl) ?_
        refine px_q_ll (len := 2) (j := 5) rfl l5 ?_
        refine px_q_il (len := 2) (j := 4) rfl l4 ?_
        refine px_Z_its (pc1 := 111) (lv1 := lv) (st1 := [.long (nm_bc w).toInt64, .long pt, .int (Int32.ofNat 1), .ref 69]) (hp1 := hp3) 1 (fun _ _ _ _ => rfl) ?_
        refine px_q_ldiv (len := 1) rfl hcz ?_
        refine px_q_virt (len := 3) (n := 2) (a := 69) (N := mm_M_adds) (mi := mi_M_adds) (ci := 9) rfl rfl rfl hx3 rfl (Nat.le_of_ble_eq_true rfl) (Nat.le_of_ble_eq_true rfl) rfl rfl f1 ?_
        simpa using h
      rcases f4 with rfl | rfl
      · obtain ⟨r9, hp', z1, z2, z3, z4⟩ := inc hp4 hK4
        exact ⟨r9, hp', pre _ _ (px_q_if (bb := true) (len := 3) (c := .ne) (off := 5) rfl (by decide) z1), z2, z3, px_fr_tr hf4 z4⟩
      · refine ⟨0, hp4, pre _ _ (px_q_if (bb := false) (len := 3) (c := .ne) (off := 5) rfl (by decide) ?_), Or.inl rfl, hK4, hf4⟩
        refine px_Z_its (pc1 := 119) (lv1 := lv) (st1 := [.int 0]) (hp1 := hp4) 1 (fun _ _ _ _ => rfl) ?_
        exact px_q_iret (len := 1) (ty := .boolean) rfl rfl rfl
    have hfr2 : px_fr df_ws df_wa hp hp2 := px_fr_tr (px_fr_mono c3 (by decide) (by decide)) (px_fr_mono e3 (by decide) (by decide))
    have pre2 : ∀ (r9 : Option Value) (h9 : px_H), px_Z nm_T none nm_P mm_M_drawsFrom 87 lv [.int r, .long vs, .ref 69] hp2 r9 h9 → px_Z nm_T none nm_P mm_M_drawsFrom 48 lv [] hp r9 h9 := by
      intro r9 h9 h
      refine head false _ _ hge ?_
      refine px_q_iln (len := 1) (j := 3) rfl l3 ?_
      refine px_q_il (len := 2) (j := 7) rfl l7 ?_
      refine px_q_stat (len := 3) (n := 2) (N := mm_M_has) (mi := mi_M_has) rfl rfl rfl (Nat.le_of_ble_eq_true rfl) (Nat.le_of_ble_eq_true rfl) rfl rfl (nm_has_C w p hp) ?_
      rw [if_pos hbit]
      refine px_q_if (bb := true) (len := 3) (c := .ne) (off := 6) rfl (by decide) ?_
      refine px_q_aln (pc := 69) (len := 1) (j := 0) rfl l0 ?_
      refine px_Z_its (pc1 := 71) (lv1 := lv) (st1 := [.int (Int32.ofNat 0), .ref 69]) (hp1 := hp) 1 (fun _ _ _ _ => rfl) ?_
      refine px_q_iln (len := 1) (j := 1) rfl l1 ?_
      refine px_q_virt (len := 3) (n := 2) (a := 69) (N := mm_M_looksAt) (mi := mi_M_looksAt) (ci := 9) rfl rfl rfl hx rfl (Nat.le_of_ble_eq_true rfl) (Nat.le_of_ble_eq_true rfl) rfl rfl c1 ?_
      refine px_q_aln (pc := 75) (len := 1) (j := 0) rfl l0 ?_
      refine px_Z_its (pc1 := 77) (lv1 := lv) (st1 := [.ref 69, .ref 69]) (hp1 := hp1) 1 (fun _ _ _ _ => rfl) ?_
      refine px_q_get (len := 3) (ci := 9) (k := nf_vainSum) (fs := fs1) (v := .long vs) rfl rfl hx1 hvs ?_
      refine px_q_aln (len := 1) (j := 0) rfl l0 ?_
      refine px_q_iln (len := 1) (j := 2) rfl l2 ?_
      refine px_q_il (len := 2) (j := 7) rfl l7 ?_
      exact px_q_virt (len := 3) (n := 2) (a := 69) (N := mm_M_takes) (mi := mi_M_takes) (ci := 9) rfl rfl rfl hx1 rfl (Nat.le_of_ble_eq_true rfl) (Nat.le_of_ble_eq_true rfl) rfl rfl e1 h
    rcases e4 with rfl | rfl
    · obtain ⟨r9, hp', z1, z2, z3, z4⟩ := rest (vs + pt / (nm_bc w).toInt64)
      refine ⟨r9, hp', pre2 _ _ ?_, z2, z3, px_fr_tr hfr2 z4⟩
      refine px_q_if (bb := true) (len := 3) (c := .eq) (off := 7) rfl (by decide) ?_
      refine px_q_ll (pc := 94) (len := 2) (j := 5) rfl l5 ?_
      refine px_q_il (len := 2) (j := 4) rfl l4 ?_
      refine px_Z_its (pc1 := 99) (lv1 := lv) (st1 := [.long (nm_bc w).toInt64, .long pt, .long vs, .ref 69]) (hp1 := hp2) 1 (fun _ _ _ _ => rfl) ?_
      refine px_q_ldiv (len := 1) rfl hcz ?_
      exact px_Z_its (pc1 := 101) (lv1 := lv) (st1 := [.long (vs + pt / (nm_bc w).toInt64), .ref 69]) (hp1 := hp2) 1 (fun _ _ _ _ => rfl) z1
    · obtain ⟨r9, hp', z1, z2, z3, z4⟩ := rest (vs + 0)
      refine ⟨r9, hp', pre2 _ _ ?_, z2, z3, px_fr_tr hfr2 z4⟩
      refine px_q_if (bb := false) (len := 3) (c := .eq) (off := 7) rfl (by decide) ?_
      exact px_Z_its (pc1 := 101) (lv1 := lv) (st1 := [.long (vs + 0), .ref 69]) (hp1 := hp2) 3 (fun _ _ _ _ => rfl) z1
end mg_6

section mg_7
/-! goesThrough: drawsFrom -/
set_option maxHeartbeats 4000000 in
theorem df_C {o : Nat → Int64} {G0 : Int32} {gO : Nat → Int32} {b i : Nat} {c : Int} {d bo : Int32} {hp : px_H} (hK : df_K o G0 gO b c hp) (d0 : 0 ≤ d.toInt) (d5 : d.toInt ≤ 5) (hbo : gO d.toNatClampNeg = bo) (b0 : 0 ≤ bo.toInt) (b1 : bo.toInt ≤ 1) (hb : bo.toNatClampNeg = b) (hi : (i : Int) < G0.toInt) (hi3 : i < 3000) (hw0 : nm_bg b (o i) ≠ 0) (hwc : (nm_bc (nm_bg b (o i))).toInt ≤ c + 1) :
    ∃ (r : Int32) (hp' : px_H), px_C nm_T nm_P mi_M_drawsFrom [.ref 69, .int (Int32.ofNat i), .int d] hp (some (.int r)) hp' ∧ (r = 0 ∨ r = 1) ∧ df_K o G0 gO b c hp' ∧ px_fr df_ws df_wa hp hp' := by
  have hK0 := hK
  obtain ⟨hG, hH, hT0, hT1, ⟨g, hg, hg0⟩, hO⟩ := hK
  obtain ⟨fs, hx, -, -⟩ := ac_obj hG (c := 69) rfl
  have hT0' := hT0
  obtain ⟨gq, o1, s1, s2, s3⟩ := hT0'
  rw [hg] at s1
  cases s1
  have ho1 : o1 (0 * 3001 + i) = o i := s3 i (by rw [hg0]; exact hi)
  obtain ⟨hp1, gB, c1, c2, c3, c4, c5⟩ := nm_looks hG s2 (tn := 0) (e := i) (by decide) (by omega)
  have hK1 : df_K o G0 gO b c hp1 := df_K_fr c3 c2 (by decide) (by decide) (by decide) (by decide) hK0
  have hb2 : b < 2 := by rw [← hb]; unfold Int32.toNatClampNeg; omega
  have hgw : gB bo.toNatClampNeg = nm_bg b (o i) := by rw [hb, c5 b hb2, ho1]
  obtain ⟨gB', hB', bB⟩ := ac_arrI c2 (c := na_inBag) (t := nr_inBag) (n := 2) (lo := 0) (hi := 1023) (Nat.le_of_ble_eq_true rfl) rfl
  rw [c4] at hB'
  cases hB'
  have hwb := bB bo.toNatClampNeg (by rw [hb]; exact hb2)
  rw [hgw] at hwb
  generalize hwd : nm_bg b (o i) = w at hw0 hwc hgw hwb
  have hw1 : 1 ≤ w.toInt := by
    have : w.toInt ≠ 0 := fun h => hw0 (by rw [← Int32.toInt_inj, h, Int32.toInt_zero])
    omega
  have hb10 := nm_bc_10 w hw1 hwb.2
  have hcz : (nm_bc w).toInt64 ≠ 0 := by
    intro h
    have h2 := congrArg Int64.toInt h
    rw [Int32.toInt_toInt64] at h2
    have : (0 : Int64).toInt = 0 := rfl
    omega
  obtain ⟨fs1, hx1, -, -⟩ := ac_obj c2 (c := 69) rfl
  obtain ⟨ds, hds⟩ := nm_fJ c2 hx1 (k := nf_drawnSum) (a := -9223372036854775808) (b := 9223372036854775807) rfl
  obtain ⟨pt, hpt, -⟩ := ac_arrL c2 (c := na_part) (t := nr_part) (n := 9003) (Nat.le_of_ble_eq_true rfl) rfl
  have hkd : nf_drawnSum < fs1.length := (List.getElem?_eq_some_iff.mp hds).1
  have hG2 : ab_h nm_GH (hp1.set 69 (.inr (9, fs1.set nf_drawnSum (.long (ds + pt i))))) := nm_h_obj c2 hx1 (f := (1, -9223372036854775808, 9223372036854775807, [])) (fun FS h => by cases h; rfl) ⟨rfl, ab_i64 _⟩
  have hf2 : px_fr [(69, nf_drawnSum)] [] hp1 (hp1.set 69 (.inr (9, fs1.set nf_drawnSum (.long (ds + pt i))))) := px_fr_obj hx1 (by decide)
  have hK2 := df_K_fr hf2 hG2 (by decide) (by decide) (by decide) (by decide) hK1
  obtain ⟨r, hp', z1, z2, z3, z4⟩ := df_loop (pt := pt i) d0 d5 hbo b0 b1 hb hi hi3 hwd hwb.1 hwb.2 hwc hcz 20 [(7, .int 0), (5, .long (pt i)), (4, .int (nm_bc w)), (3, .int w), (0, .ref 69), (1, .int (Int32.ofNat i)), (2, .int d)] _ 0 hK2 rfl rfl rfl rfl rfl rfl rfl (by decide) (by decide) (by decide)
  refine ⟨r, hp', ?_, z2, z3, px_fr_tr (px_fr_tr (px_fr_mono c3 (by decide) (by decide)) (px_fr_mono hf2 (by decide) (by decide))) z4⟩
  have hin := nm_inR i 9003 (by omega) (by decide)
  have hcl := nm_ofNat_clamp i (by omega)
  refine px_C_of (N := mm_M_drawsFrom) rfl (Nat.le_of_ble_eq_true rfl) ?_
  refine px_Z_its (pc1 := 3) (lv1 := [(0, .ref 69), (1, .int (Int32.ofNat i)), (2, .int d)]) (st1 := [.int (Int32.ofNat i), .int (Int32.ofNat 0), .ref 69]) (hp1 := hp) 3 (fun _ _ _ _ => rfl) ?_
  refine px_q_virt (len := 3) (n := 2) (a := 69) (N := mm_M_looksAt) (mi := mi_M_looksAt) (ci := 9) rfl rfl rfl hx rfl (Nat.le_of_ble_eq_true rfl) (Nat.le_of_ble_eq_true rfl) rfl rfl c1 ?_
  refine px_Z_its (pc1 := 7) (lv1 := [(0, .ref 69), (1, .int (Int32.ofNat i)), (2, .int d)]) (st1 := [.ref 69]) (hp1 := hp1) 1 (fun _ _ _ _ => rfl) ?_
  refine px_q_get (len := 3) (ci := 9) (k := nf_inBag) (fs := fs1) (v := .ref na_inBag) rfl rfl hx1 (nm_f c2 hx1 rfl) ?_
  refine px_Z_its (pc1 := 11) (lv1 := [(0, .ref 69), (1, .int (Int32.ofNat i)), (2, .int d)]) (st1 := [.ref 69, .ref na_inBag]) (hp1 := hp1) 1 (fun _ _ _ _ => rfl) ?_
  refine px_q_get (len := 3) (ci := 9) (k := nf_bagOf) (fs := fs1) (v := .ref na_bagOf) rfl rfl hx1 (nm_f c2 hx1 rfl) ?_
  refine px_Z_its (pc1 := 15) (lv1 := [(0, .ref 69), (1, .int (Int32.ofNat i)), (2, .int d)]) (st1 := [.int d, .ref na_bagOf, .ref na_inBag]) (hp1 := hp1) 1 (fun _ _ _ _ => rfl) ?_
  refine px_q_iald (len := 1) rfl hK1.2.2.2.2.2 rfl (nm_ixR d 6 d0 (by omega)) ?_
  rw [hbo]
  refine px_q_iald (len := 1) rfl c4 rfl (nm_ixR bo 2 b0 (by omega)) ?_
  rw [hgw]
  refine px_Z_its (pc1 := 19) (lv1 := [(3, .int w), (0, .ref 69), (1, .int (Int32.ofNat i)), (2, .int d)]) (st1 := [.int w]) (hp1 := hp1) 2 (fun _ _ _ _ => rfl) ?_
  refine px_q_stat (len := 3) (n := 1) (N := mm_I_bitCount) (mi := mi_I_bitCount) rfl rfl rfl (Nat.le_of_ble_eq_true rfl) (Nat.le_of_ble_eq_true rfl) rfl rfl (nm_bc_C w hp1) ?_
  refine px_Z_its (pc1 := 25) (lv1 := [(4, .int (nm_bc w)), (3, .int w), (0, .ref 69), (1, .int (Int32.ofNat i)), (2, .int d)]) (st1 := [.ref 69]) (hp1 := hp1) 2 (fun _ _ _ _ => rfl) ?_
  refine px_q_get (len := 3) (ci := 9) (k := nf_part) (fs := fs1) (v := .ref na_part) rfl rfl hx1 (nm_f c2 hx1 rfl) ?_
  refine px_Z_its (pc1 := 31) (lv1 := [(4, .int (nm_bc w)), (3, .int w), (0, .ref 69), (1, .int (Int32.ofNat i)), (2, .int d)]) (st1 := [.int (0 + Int32.ofNat i), .ref na_part]) (hp1 := hp1) 3 (fun _ _ _ _ => rfl) ?_
  rw [Int32.zero_add]
  refine px_q_lald (len := 1) rfl hpt rfl hin ?_
  rw [hcl]
  refine px_Z_its (pc1 := 36) (lv1 := [(5, .long (pt i)), (4, .int (nm_bc w)), (3, .int w), (0, .ref 69), (1, .int (Int32.ofNat i)), (2, .int d)]) (st1 := [.ref 69, .ref 69]) (hp1 := hp1) 3 (fun _ _ _ _ => rfl) ?_
  refine px_q_get (len := 3) (ci := 9) (k := nf_drawnSum) (fs := fs1) (v := .long ds) rfl rfl hx1 hds ?_
  refine px_Z_its (pc1 := 42) (lv1 := [(5, .long (pt i)), (4, .int (nm_bc w)), (3, .int w), (0, .ref 69), (1, .int (Int32.ofNat i)), (2, .int d)]) (st1 := [.long (ds + pt i), .ref 69]) (hp1 := hp1) 2 (fun _ _ _ _ => rfl) ?_
  refine px_q_putf (len := 3) (ci := 9) (k := nf_drawnSum) (fs := fs1) rfl rfl hx1 hkd rfl rfl rfl rfl ?_
  exact px_Z_its (pc1 := 48) (lv1 := [(7, .int 0), (5, .long (pt i)), (4, .int (nm_bc w)), (3, .int w), (0, .ref 69), (1, .int (Int32.ofNat i)), (2, .int d)]) (st1 := []) 2 (fun _ _ _ _ => rfl) z1
end mg_7

section mg_8
/-! goesThrough: parts, the loop -/
abbrev pa_ws : List (Nat × Nat) := [(69, nf_next), (69, nf_putBy), (69, nf_sitting)]
def pa_K (t : Nat) (o : Nat → Int64) (Gt : Int32) (gO gS : Nat → Int32) (b : Nat) (c : Int) (hp : px_H) : Prop :=
  ab_h nm_GH hp ∧ (∀ t, t ≤ 2 → t ≠ 1 → nm_HI t hp) ∧ nm_TE t (fun e v => v = o e) hp ∧ nm_TE 0 (fun _ v => (nm_bc (nm_bg b v)).toInt ≤ c) hp ∧ (∃ g : Nat → Int32, hp[na_size]? = some (.inl (nr_size, 3, .inl g)) ∧ g t = Gt) ∧ hp[na_bagOf]? = some (.inl (nr_bagOf, 6, .inl gO)) ∧ hp[na_seatsOf]? = some (.inl (nr_seatsOf, 6, .inl gS))
theorem pa_K_fr {t : Nat} {o : Nat → Int64} {Gt : Int32} {gO gS : Nat → Int32} {b : Nat} {c : Int} {hp hp' : px_H} {ws : List (Nat × Nat)} {wa : List Nat} (h : px_fr ws wa hp hp') (hG : ab_h nm_GH hp') (h1 : na_size ∉ wa) (h2 : na_one ∉ wa) (h3 : na_hash ∉ wa) (h4 : na_bagOf ∉ wa) (h5 : na_seatsOf ∉ wa) (hK : pa_K t o Gt gO gS b c hp) : pa_K t o Gt gO gS b c hp' := by
  obtain ⟨-, a2, a3, a4, ⟨g, a5, a6⟩, a7, a8⟩ := hK
  exact ⟨hG, fun t ht hu => nm_HI_fr h h3 h1 (a2 t ht hu), nm_TE_fr h h1 h2 a3, nm_TE_fr h h1 h2 a4, ⟨g, h.1 _ _ h1 a5, a6⟩, h.1 _ _ h4 a7, h.1 _ _ h5 a8⟩
/-- adds to another table than the one that is gone through -/
theorem pa_adds {t tn : Nat} {o : Nat → Int64} {Gt : Int32} {gO gS : Nat → Int32} {b : Nat} {c : Int} {hp : px_H} (hK : pa_K t o Gt gO gS b c hp) (ht : t ≤ 2) (htn : tn ≤ 2) (hne : t ≠ tn) (h1n : tn ≠ 1) (ch : Int64) {gB : Nat → Int32} (hB : hp[na_inBag]? = some (.inl (nr_inBag, 2, .inl gB))) (hb : b < 2) (hc : tn = 0 → (nm_bc (gB b)).toInt ≤ c) :
    ∃ (r : Int32) (hp' : px_H), px_C nm_T nm_P mi_M_adds [.ref 69, .int (Int32.ofNat tn), .long ch] hp (some (.int r)) hp' ∧ (r = 0 ∨ r = 1) ∧ pa_K t o Gt gO gS b c hp' ∧ px_fr [] [na_one, na_other, na_part, na_size, na_hash] hp hp' := by
  obtain ⟨hG, k2, k3, k4, ⟨g3, k5, k6⟩, k7, k8⟩ := hK
  obtain ⟨fs, hx, -, -⟩ := ac_obj hG (c := 69) rfl
  obtain ⟨gA, hA, -⟩ := ac_arrI hG (c := na_aside) (t := nr_aside) (n := 2) (lo := 0) (hi := 1023) (Nat.le_of_ble_eq_true rfl) rfl
  obtain ⟨pb, hpb, -, -⟩ := nm_fI hG hx (k := nf_putBy) (a := 0) (b := 1023) rfl
  obtain ⟨sv, hsv, -, -⟩ := nm_fI hG hx (k := nf_sitting) (a := 0) (b := 1023) rfl
  obtain ⟨gB', hB', bB⟩ := ac_arrI hG (c := na_inBag) (t := nr_inBag) (n := 2) (lo := 0) (hi := 1023) (Nat.le_of_ble_eq_true rfl) rfl
  rw [hB] at hB'
  cases hB'
  obtain ⟨ra, hp4, f1, f2, f3, f4, f5, f6, f7⟩ := nm_adds_B hG htn (k2 tn htn h1n) ch hx hB hA hpb hsv
  obtain ⟨g4, j1, j2⟩ := f7 g3 k5
  have hK4 : pa_K t o Gt gO gS b c hp4 := by
    refine ⟨f2, fun t ht hu => f5 t ht (k2 t ht hu), f6 t _ ht (Or.inl hne) k3, f6 0 _ (by decide) ?_ k4, ⟨g4, j1, by rw [j2 t hne]; exact k6⟩, f3.1 _ _ (by decide) k7, f3.1 _ _ (by decide) k8⟩
    by_cases h0 : 0 = tn
    · exact Or.inr (fun e => by rw [nm_fst_bg bB hb]; exact hc h0.symm)
    · exact Or.inl h0
  rcases f4 with rfl | rfl
  · exact ⟨1, hp4, f1, Or.inr rfl, hK4, f3⟩
  · exact ⟨0, hp4, f1, Or.inl rfl, hK4, f3⟩
end mg_8

section mg_9
/-! goesThrough: parts, the loop -/
set_option maxHeartbeats 4000000 in
theorem pa_loop {t : Nat} (ht : t ≤ 1) {o : Nat → Int64} {Gt : Int32} {gO gS : Nat → Int32} {b : Nat} {c : Int} {d bo : Int32} (d0 : 0 ≤ d.toInt) (d5 : d.toInt ≤ 5) (hbo : gO d.toNatClampNeg = bo) (b0 : 0 ≤ bo.toInt) (b1 : bo.toInt ≤ 1) (hb : bo.toNatClampNeg = b) (hG3 : Gt.toInt ≤ 3000) (hcount : ∀ e : Nat, (e : Int) < Gt.toInt → (nm_bc (nm_bg b (o e))).toInt ≤ c) :
    ∀ (m : Nat) (lv : List (Nat × Value)) (hp : px_H) (i : Nat), pa_K t o Gt gO gS b c hp → px_find 0 lv = some (.ref 69) → px_find 1 lv = some (.int (Int32.ofNat t)) → px_find 2 lv = some (.int d) → px_find 3 lv = some (.int (Int32.ofNat i)) → i ≤ 3000 → 3000 < i + m →
    ∃ (r : Int32) (hp' : px_H), px_Z nm_T none nm_P mm_M_parts 12 lv [] hp (some (.int r)) hp' ∧ (r = 0 ∨ r = 1) ∧ pa_K t o Gt gO gS b c hp' ∧ px_fr pa_ws df_wa hp hp' := by
  intro m
  induction m with
  | zero => intro lv hp i _ _ _ _ _ h1 h2; omega
  | succ m ih =>
    intro lv hp i hK l0 l1 l2 l3 hi hm
    have hK0 := hK
    obtain ⟨hG, hH, hTt, hT0, ⟨g, hg, hg0⟩, hO, hS⟩ := hK
    obtain ⟨fs, hx, -, -⟩ := ac_obj hG (c := 69) rfl
    have ei := nm_ofNat_toInt i (by omega)
    have head : ∀ (bb : Bool) (r : Option Value) (hp' : px_H), px_cmp .ge (Int32.ofNat i) Gt = bb → px_Z nm_T none nm_P mm_M_parts (bif bb then 92 else 22) lv [] hp r hp' → px_Z nm_T none nm_P mm_M_parts 12 lv [] hp r hp' := by
      intro bb r hp' hc h
      refine px_q_iln (len := 1) (j := 3) rfl l3 ?_
      refine px_q_aln (len := 1) (j := 0) rfl l0 ?_
      refine px_q_get (len := 3) (ci := 9) (k := nf_size) (fs := fs) (v := .ref na_size) rfl rfl hx (nm_f hG hx rfl) ?_
      refine px_q_iln (len := 1) (j := 1) rfl l1 ?_
      refine px_q_iald (len := 1) rfl hg rfl (nm_inR t 3 (by omega) (by decide)) ?_
      rw [nm_ofNat_clamp t (by omega), hg0]
      refine px_q_icmp (bb := bb) (len := 3) (c := .ge) (off := 73) rfl hc ?_
      cases bb
      · exact h
      · exact h
    by_cases hge : Gt.toInt ≤ i
    · refine ⟨1, hp, head true _ _ ?_ ?_, Or.inr rfl, hK0, px_fr_rf _ _ _⟩
      · simp only [px_cmp, decide_eq_true_eq, ge_iff_le, Int32.le_iff_toInt_le, ei]; exact hge
      · refine px_Z_its (pc1 := 93) (lv1 := lv) (st1 := [.int 1]) (hp1 := hp) 1 (fun _ _ _ _ => rfl) ?_
        exact px_q_iret (len := 1) (ty := .boolean) rfl rfl rfl
    have hcmp : px_cmp .ge (Int32.ofNat i) Gt = false := by simp only [px_cmp, decide_eq_false_iff_not, ge_iff_le, Int32.le_iff_toInt_le, ei]; exact hge
    have inc : ∀ hq : px_H, pa_K t o Gt gO gS b c hq → ∃ (r : Int32) (hp' : px_H), px_Z nm_T none nm_P mm_M_parts 86 lv [] hq (some (.int r)) hp' ∧ (r = 0 ∨ r = 1) ∧ pa_K t o Gt gO gS b c hp' ∧ px_fr pa_ws df_wa hq hp' := by
      intro hq hKq
      have e1 : Int32.ofNat i + Int32.ofInt 1 = Int32.ofNat (i + 1) := by rw [Int32.ofNat_add]; rfl
      obtain ⟨r, hp', z1, z2, z3, z4⟩ := ih (px_st1 lv 3 (.int (Int32.ofNat (i + 1)))) hq (i + 1) hKq (px_st1_nr l0) (px_st1_ne l1) (ab_sto1_find l2 (by decide) (fun _ hc => by cases hc)) (px_st1_at _ _ _) (by omega) (by omega)
      refine ⟨r, hp', ?_, z2, z3, z4⟩
      refine px_q_iinc (len := 3) (j := 3) (n := 1) rfl l3 rfl ?_
      rw [e1]
      exact px_Z_its (pc1 := 12) (lv1 := px_st1 lv 3 (.int (Int32.ofNat (i + 1)))) (st1 := []) (hp1 := hq) 1 (fun _ _ _ _ => rfl) z1
    obtain ⟨gq, o1, s1, s2, s3⟩ := hTt
    rw [hg] at s1
    cases s1
    have hil : (i : Int) < Gt.toInt := by omega
    have ho1 : o1 (t * 3001 + i) = o i := s3 i (by rw [hg0]; exact hil)
    obtain ⟨hp1, gB, c1, c2, c3, c4, c5⟩ := nm_looks hG s2 (tn := t) (e := i) (by omega) (by omega)
    have hK1 : pa_K t o Gt gO gS b c hp1 := pa_K_fr c3 c2 (by decide) (by decide) (by decide) (by decide) (by decide) hK0
    have hb2 : b < 2 := by rw [← hb]; unfold Int32.toNatClampNeg; omega
    have hgb : (nm_bc (gB b)).toInt ≤ c := by rw [c5 b hb2, ho1]; exact hcount i hil
    have hfr1 : px_fr pa_ws df_wa hp hp1 := px_fr_mono c3 (by decide) (by decide)
    obtain ⟨fs1, hx1, -, -⟩ := ac_obj c2 (c := 69) rfl
    obtain ⟨sv1, hs1, -, -⟩ := nm_fI c2 hx1 (k := nf_sitting) (a := 0) (b := 1023) rfl
    obtain ⟨ov, hov, hr01, -⟩ := nm_over c2 hx1 c4 hK1.2.2.2.2.2.1 hK1.2.2.2.2.2.2 hs1 d0 d5 hbo b0 b1
    have hin := nm_inR (t * 3001 + i) 9003 (by omega) (by decide)
    have hcl := nm_ofNat_clamp (t * 3001 + i) (by omega)
    have pre : ∀ (r : Option Value) (h9 : px_H), px_Z nm_T none nm_P mm_M_parts 33 lv [.int ov] hp1 r h9 → px_Z nm_T none nm_P mm_M_parts 12 lv [] hp r h9 := by
      intro r h9 h
      refine head false _ _ hcmp ?_
      refine px_q_aln (pc := 22) (len := 1) (j := 0) rfl l0 ?_
      refine px_q_iln (len := 1) (j := 1) rfl l1 ?_
      refine px_q_iln (len := 1) (j := 3) rfl l3 ?_
      refine px_q_virt (len := 3) (n := 2) (a := 69) (N := mm_M_looksAt) (mi := mi_M_looksAt) (ci := 9) rfl rfl rfl hx rfl (Nat.le_of_ble_eq_true rfl) (Nat.le_of_ble_eq_true rfl) rfl rfl c1 ?_
      refine px_q_aln (pc := 28) (len := 1) (j := 0) rfl l0 ?_
      refine px_q_iln (len := 1) (j := 2) rfl l2 ?_
      exact px_q_virt (len := 3) (n := 1) (a := 69) (N := mm_M_isOver) (mi := mi_M_isOver) (ci := 9) rfl rfl rfl hx1 rfl (Nat.le_of_ble_eq_true rfl) (Nat.le_of_ble_eq_true rfl) rfl rfl hov h
    rcases hr01 with rfl | rfl
    · -- not over
      by_cases ht1 : t = 1
      · subst ht1
        obtain ⟨pt, hpt, -⟩ := ac_arrL c2 (c := na_part) (t := nr_part) (n := 9003) (Nat.le_of_ble_eq_true rfl) rfl
        obtain ⟨r2, hp2, a1, a2, a3, a4⟩ := pa_adds hK1 (by decide) (tn := 0) (by decide) (by decide) (by decide) (pt (1 * 3001 + i)) c4 hb2 (fun _ => hgb)
        obtain ⟨r, hp', z1, z2, z3, z4⟩ := inc hp2 a3
        refine ⟨r, hp', pre _ _ ?_, z2, z3, px_fr_tr hfr1 (px_fr_tr (px_fr_mono a4 (by decide) (by decide)) z4)⟩
        refine px_q_if (bb := true) (len := 3) (c := .eq) (off := 30) rfl (by decide) ?_
        refine px_q_iln (pc := 63) (len := 1) (j := 1) rfl l1 ?_
        refine px_Z_its (pc1 := 65) (lv1 := lv) (st1 := [.int 1, .int (Int32.ofNat 1)]) (hp1 := hp1) 1 (fun _ _ _ _ => rfl) ?_
        refine px_q_icmp (bb := false) (len := 3) (c := .ne) (off := 21) rfl (by decide) ?_
        refine px_q_aln (pc := 68) (len := 1) (j := 0) rfl l0 ?_
        refine px_Z_its (pc1 := 70) (lv1 := lv) (st1 := [.int (Int32.ofNat 0), .ref 69]) (hp1 := hp1) 1 (fun _ _ _ _ => rfl) ?_
        refine px_q_aln (len := 1) (j := 0) rfl l0 ?_
        refine px_q_get (len := 3) (ci := 9) (k := nf_part) (fs := fs1) (v := .ref na_part) rfl rfl hx1 (nm_f c2 hx1 rfl) ?_
        refine px_q_iln (len := 1) (j := 1) rfl l1 ?_
        refine px_Z_its (pc1 := 79) (lv1 := lv) (st1 := [.int (Int32.ofNat 1 * (Int16.ofInt 3001).toInt32), .ref na_part, .int (Int32.ofNat 0), .ref 69]) (hp1 := hp1) 2 (fun _ _ _ _ => rfl) ?_
        refine px_q_iln (len := 1) (j := 3) rfl l3 ?_
        refine px_Z_its (pc1 := 81) (lv1 := lv) (st1 := [.int (Int32.ofNat 1 * (Int16.ofInt 3001).toInt32 + Int32.ofNat i), .ref na_part, .int (Int32.ofNat 0), .ref 69]) (hp1 := hp1) 1 (fun _ _ _ _ => rfl) ?_
        rw [nm_tix]
        refine px_q_lald (len := 1) rfl hpt rfl hin ?_
        rw [hcl]
        refine px_q_virt (len := 3) (n := 2) (a := 69) (N := mm_M_adds) (mi := mi_M_adds) (ci := 9) rfl rfl rfl hx1 rfl (Nat.le_of_ble_eq_true rfl) (Nat.le_of_ble_eq_true rfl) rfl rfl a1 ?_
        exact px_Z_its (pc1 := 86) (lv1 := lv) (st1 := []) (hp1 := hp2) 1 (fun _ _ _ _ => rfl) z1
      · obtain ⟨r, hp', z1, z2, z3, z4⟩ := inc hp1 hK1
        refine ⟨r, hp', pre _ _ ?_, z2, z3, px_fr_tr hfr1 z4⟩
        have : t = 0 := by omega
        subst this
        refine px_q_if (bb := true) (len := 3) (c := .eq) (off := 30) rfl (by decide) ?_
        refine px_q_iln (pc := 63) (len := 1) (j := 1) rfl l1 ?_
        refine px_Z_its (pc1 := 65) (lv1 := lv) (st1 := [.int 1, .int (Int32.ofNat 0)]) (hp1 := hp1) 1 (fun _ _ _ _ => rfl) ?_
        exact px_q_icmp (bb := true) (len := 3) (c := .ne) (off := 21) rfl (by decide) z1
    · -- over
      obtain ⟨r9, hp2, o9, m1, m2, m3, m4, m5, -, m7⟩ := kp_M_closes_0 [.ref 69, .int d] hp1 c2 ⟨⟨rfl, List.mem_cons_self⟩, ⟨rfl, d0, d5⟩, trivial⟩ (fun i hi => by cases hi)
      have hr9 : r9 = none := by
        cases List.mem_singleton.mp m1
        cases r9 with
        | none => rfl
        | some v => exact absurd m4 (by simp [ac_rv])
      subst hr9
      have hK2 : pa_K t o Gt gO gS b c hp2 := pa_K_fr m7 m3 (by decide) (by decide) (by decide) (by decide) (by decide) hK1
      obtain ⟨fs2, hx2, -, -⟩ := ac_obj m3 (c := 69) rfl
      obtain ⟨gB2, hB2, -⟩ := ac_arrI m3 (c := na_inBag) (t := nr_inBag) (n := 2) (lo := 0) (hi := 1023) (Nat.le_of_ble_eq_true rfl) rfl
      obtain ⟨pt, hpt, -⟩ := ac_arrL m3 (c := na_part) (t := nr_part) (n := 9003) (Nat.le_of_ble_eq_true rfl) rfl
      obtain ⟨r2, hp3, a1, a2, a3, a4⟩ := pa_adds hK2 (by omega) (tn := 2) (by decide) (by omega) (by decide) (pt (t * 3001 + i)) hB2 hb2 (fun h => absurd h (by decide))
      have hfr3 : px_fr pa_ws df_wa hp hp3 := px_fr_tr hfr1 (px_fr_tr (px_fr_mono m7 (by decide) (by decide)) (px_fr_mono a4 (by decide) (by decide)))
      have pre2 : ∀ (r : Option Value) (h9 : px_H), px_Z nm_T none nm_P mm_M_parts 58 lv [.int r2] hp3 r h9 → px_Z nm_T none nm_P mm_M_parts 12 lv [] hp r h9 := by
        intro r h9 h
        refine pre _ _ ?_
        refine px_q_if (bb := false) (len := 3) (c := .eq) (off := 30) rfl (by decide) ?_
        refine px_q_aln (pc := 36) (len := 1) (j := 0) rfl l0 ?_
        refine px_q_iln (len := 1) (j := 2) rfl l2 ?_
        refine px_q_virt (len := 3) (n := 1) (a := 69) (N := mm_M_closes) (mi := mi_M_closes) (ci := 9) rfl rfl rfl hx1 rfl (Nat.le_of_ble_eq_true rfl) (Nat.le_of_ble_eq_true rfl) rfl rfl m2 ?_
        refine px_q_aln (pc := 41) (len := 1) (j := 0) rfl l0 ?_
        refine px_Z_its (pc1 := 43) (lv1 := lv) (st1 := [.int (Int32.ofNat 2), .ref 69]) (hp1 := hp2) 1 (fun _ _ _ _ => rfl) ?_
        refine px_q_aln (len := 1) (j := 0) rfl l0 ?_
        refine px_q_get (len := 3) (ci := 9) (k := nf_part) (fs := fs2) (v := .ref na_part) rfl rfl hx2 (nm_f m3 hx2 rfl) ?_
        refine px_q_iln (len := 1) (j := 1) rfl l1 ?_
        refine px_Z_its (pc1 := 52) (lv1 := lv) (st1 := [.int (Int32.ofNat t * (Int16.ofInt 3001).toInt32), .ref na_part, .int (Int32.ofNat 2), .ref 69]) (hp1 := hp2) 2 (fun _ _ _ _ => rfl) ?_
        refine px_q_iln (len := 1) (j := 3) rfl l3 ?_
        refine px_Z_its (pc1 := 54) (lv1 := lv) (st1 := [.int (Int32.ofNat t * (Int16.ofInt 3001).toInt32 + Int32.ofNat i), .ref na_part, .int (Int32.ofNat 2), .ref 69]) (hp1 := hp2) 1 (fun _ _ _ _ => rfl) ?_
        rw [nm_tix]
        refine px_q_lald (len := 1) rfl hpt rfl hin ?_
        rw [hcl]
        exact px_q_virt (len := 3) (n := 2) (a := 69) (N := mm_M_adds) (mi := mi_M_adds) (ci := 9) rfl rfl rfl hx2 rfl (Nat.le_of_ble_eq_true rfl) (Nat.le_of_ble_eq_true rfl) rfl rfl a1 h
      rcases a2 with rfl | rfl
      · refine ⟨0, hp3, pre2 _ _ ?_, Or.inl rfl, a3, hfr3⟩
        refine px_q_if (bb := false) (len := 3) (c := .ne) (off := 28) rfl (by decide) ?_
        refine px_Z_its (pc1 := 62) (lv1 := lv) (st1 := [.int 0]) (hp1 := hp3) 1 (fun _ _ _ _ => rfl) ?_
        exact px_q_iret (len := 1) (ty := .boolean) rfl rfl rfl
      · obtain ⟨r, hp', z1, z2, z3, z4⟩ := inc hp3 a3
        exact ⟨r, hp', pre2 _ _ (px_q_if (bb := true) (len := 3) (c := .ne) (off := 28) rfl (by decide) z1), z2, z3, px_fr_tr hfr3 z4⟩
end mg_9

section mg_10
/-! goesThrough: empties, any table -/
theorem nm_empt {hp : px_H} (hG : ab_h nm_GH hp) {tn : Nat} (htn : tn ≤ 2) : ∃ hp' : px_H, px_C nm_T nm_P mi_M_empties [.ref 69, .int (Int32.ofNat tn)] hp none hp' ∧ ab_h nm_GH hp' ∧ px_fr [] [na_size, na_hash] hp hp' ∧ nm_HI tn hp' ∧ (∀ t, t ≤ 2 → nm_HI t hp → nm_HI t hp') ∧ (∀ Q, nm_TE tn Q hp') ∧ (∀ t Q, t ≠ tn → nm_TE t Q hp → nm_TE t Q hp') ∧
    ∀ g : Nat → Int32, hp[na_size]? = some (.inl (nr_size, 3, .inl g)) → ∃ g' : Nat → Int32, hp'[na_size]? = some (.inl (nr_size, 3, .inl g')) ∧ ∀ t, t ≠ tn → g' t = g t := by
  obtain ⟨vs, h69, hrf⟩ := nm_mod hG
  obtain ⟨f, hf, hfb⟩ := ac_arrI hG (c := na_hash) (by decide) rfl
  obtain ⟨g, hg, hgb⟩ := ac_arrI hG (c := na_size) (by decide) rfl
  obtain ⟨o1, h1, -⟩ := ac_arrL hG (c := na_one) (by decide) rfl
  have hC := nm_emp (tn := tn) htn h69 (hrf 43 na_size rfl) (hrf 44 na_hash rfl) hg hf rfl rfl (by decide)
  have hg2 : (hp.set na_size (.inl (nr_size, 3, .inl (upd g tn (Int32.ofInt 0)))))[na_hash]? = some (.inl (nr_hash, 24576, .inl f)) := by
    rw [List.getElem?_set_ne (by decide)]
    exact hf
  have hG1 := ac_h_arr hG (c := na_size) hg rfl (y := (nr_size, 3, .inl (upd g tn (Int32.ofInt 0)))) ⟨rfl, rfl, fun j hj => by
    simp only [upd]
    split
    · exact ⟨rfl, by decide, by decide⟩
    · exact ⟨rfl, hgb j hj⟩⟩
  have hG2 := ac_h_arr hG1 (c := na_hash) hg2 rfl (y := (nr_hash, 24576, .inl (fun j => if tn * 8192 ≤ j ∧ j < tn * 8192 + 8192 then -1 else f j))) ⟨rfl, rfl, fun j hj => by
    simp only
    split
    · exact ⟨rfl, by decide, by decide⟩
    · exact ⟨rfl, hfb j hj⟩⟩
  have eh : (nm_empH hp na_size nr_size na_hash nr_hash tn g f)[na_hash]? = some (.inl (nr_hash, 24576, .inl (fun j => if tn * 8192 ≤ j ∧ j < tn * 8192 + 8192 then -1 else f j))) := by
    unfold nm_empH
    refine List.getElem?_set_self ?_
    rw [List.length_set]
    exact (List.getElem?_eq_some_iff.mp hf).1
  have es : (nm_empH hp na_size nr_size na_hash nr_hash tn g f)[na_size]? = some (.inl (nr_size, 3, .inl (upd g tn (Int32.ofInt 0)))) := by
    unfold nm_empH
    rw [List.getElem?_set_ne (by decide)]
    exact List.getElem?_set_self (List.getElem?_eq_some_iff.mp hg).1
  have eo : (nm_empH hp na_size nr_size na_hash nr_hash tn g f)[na_one]? = some (.inl (nr_one, 9003, .inr (.inl o1))) := by
    unfold nm_empH
    rw [List.getElem?_set_ne (by decide), List.getElem?_set_ne (by decide)]
    exact h1
  have hHI : nm_HI tn (nm_empH hp na_size nr_size na_hash nr_hash tn g f) := by
    refine ⟨nr_hash, nr_size, _, _, eh, es, ?_⟩
    rw [nm_cnt_none (fun k hk => by rw [if_pos (by omega)]; decide)]
    unfold upd
    rw [if_pos rfl]
    decide
  refine ⟨_, hC, hG2, px_fr_tr (px_fr_arr hg List.mem_cons_self) (px_fr_arr hg2 (List.mem_cons_of_mem _ List.mem_cons_self)), hHI, ?_, ?_, ?_, ?_⟩
  · intro t ht hit
    by_cases htt : t = tn
    · subst htt; exact hHI
    obtain ⟨th, ts, f', g', e1, e2, e3⟩ := hit
    rw [show nm_cHash = na_hash from rfl, hf] at e1
    rw [show nm_cSize = na_size from rfl, hg] at e2
    cases e1
    cases e2
    refine ⟨_, _, _, _, eh, es, ?_⟩
    rw [nm_cnt_cg (f' := f) 8192 (fun j hj => by rw [if_neg (by omega)])]
    simp only [upd]
    rw [if_neg htt]
    exact e3
  · intro Q
    refine ⟨_, _, es, eo, fun e he => ?_⟩
    simp only [upd, if_true] at he
    have : (Int32.ofInt 0).toInt = 0 := by decide
    omega
  · intro t Q htt hT
    obtain ⟨g', o', e1, e2, e3⟩ := hT
    rw [hg] at e1
    rw [h1] at e2
    cases e1
    cases e2
    refine ⟨_, _, es, eo, fun e he => ?_⟩
    simp only [upd] at he
    rw [if_neg htt] at he
    exact e3 e he
  · intro g9 h9
    rw [hg] at h9
    cases h9
    exact ⟨_, es, fun t ht => by simp only [upd]; rw [if_neg ht]⟩
end mg_10

section mg_11
/-! goesThrough: parts -/
theorem pa_C0 {o : Nat → Int64} {Gt : Int32} {gO gS : Nat → Int32} {b : Nat} {c : Int} {d bo : Int32} {hp : px_H} (hK : pa_K 0 o Gt gO gS b c hp) (d0 : 0 ≤ d.toInt) (d5 : d.toInt ≤ 5) (hbo : gO d.toNatClampNeg = bo) (b0 : 0 ≤ bo.toInt) (b1 : bo.toInt ≤ 1) (hb : bo.toNatClampNeg = b) (hG3 : Gt.toInt ≤ 3000) (hcount : ∀ e : Nat, (e : Int) < Gt.toInt → (nm_bc (nm_bg b (o e))).toInt ≤ c) :
    ∃ (r : Int32) (hp' : px_H), px_C nm_T nm_P mi_M_parts [.ref 69, .int (Int32.ofNat 0), .int d] hp (some (.int r)) hp' ∧ (r = 0 ∨ r = 1) ∧ pa_K 0 o Gt gO gS b c hp' ∧ px_fr pa_ws df_wa hp hp' := by
  obtain ⟨r, hp', z1, z2, z3, z4⟩ := pa_loop (by decide) d0 d5 hbo b0 b1 hb hG3 hcount 3001 [(3, .int (Int32.ofNat 0)), (0, .ref 69), (1, .int (Int32.ofNat 0)), (2, .int d)] hp 0 hK rfl rfl rfl rfl (by decide) (by decide)
  refine ⟨r, hp', px_C_of (N := mm_M_parts) rfl (Nat.le_of_ble_eq_true rfl) ?_, z2, z3, z4⟩
  refine px_Z_its (pc1 := 2) (lv1 := [(0, .ref 69), (1, .int (Int32.ofNat 0)), (2, .int d)]) (st1 := [.int 1, .int (Int32.ofNat 0)]) (hp1 := hp) 2 (fun _ _ _ _ => rfl) ?_
  refine px_q_icmp (bb := true) (len := 3) (c := .ne) (off := 8) rfl (by decide) ?_
  exact px_Z_its (pc1 := 12) (lv1 := [(3, .int (Int32.ofNat 0)), (0, .ref 69), (1, .int (Int32.ofNat 0)), (2, .int d)]) (st1 := []) (hp1 := hp) 2 (fun _ _ _ _ => rfl) z1
theorem pa_C1 {o : Nat → Int64} {Gt : Int32} {gO gS : Nat → Int32} {b : Nat} {c : Int} {d bo : Int32} {hp : px_H} (hG : ab_h nm_GH hp) (h2 : nm_HI 2 hp) (hT : nm_TE 1 (fun e v => v = o e) hp) (hs : ∃ g : Nat → Int32, hp[na_size]? = some (.inl (nr_size, 3, .inl g)) ∧ g 1 = Gt) (hO : hp[na_bagOf]? = some (.inl (nr_bagOf, 6, .inl gO))) (hS : hp[na_seatsOf]? = some (.inl (nr_seatsOf, 6, .inl gS))) (d0 : 0 ≤ d.toInt) (d5 : d.toInt ≤ 5) (hbo : gO d.toNatClampNeg = bo) (b0 : 0 ≤ bo.toInt) (b1 : bo.toInt ≤ 1) (hb : bo.toNatClampNeg = b) (hG3 : Gt.toInt ≤ 3000) (hcount : ∀ e : Nat, (e : Int) < Gt.toInt → (nm_bc (nm_bg b (o e))).toInt ≤ c) :
    ∃ (r : Int32) (hp' : px_H), px_C nm_T nm_P mi_M_parts [.ref 69, .int (Int32.ofNat 1), .int d] hp (some (.int r)) hp' ∧ (r = 0 ∨ r = 1) ∧ pa_K 1 o Gt gO gS b c hp' ∧ px_fr pa_ws df_wa hp hp' := by
  obtain ⟨fs, hx, -, -⟩ := ac_obj hG (c := 69) rfl
  obtain ⟨hp1, e1, e2, e3, e4, e5, e6, e7, e8⟩ := nm_empt hG (tn := 0) (by decide)
  obtain ⟨g, hg, hg1⟩ := hs
  obtain ⟨g', j1, j2⟩ := e8 g hg
  have hK : pa_K 1 o Gt gO gS b c hp1 := by
    refine ⟨e2, fun t ht hu => ?_, e7 1 _ (by decide) hT, e6 _, ⟨g', j1, by rw [j2 1 (by decide)]; exact hg1⟩, e3.1 _ _ (by decide) hO, e3.1 _ _ (by decide) hS⟩
    match t, ht, hu with
    | 0, _, _ => exact e4
    | 2, _, _ => exact e5 2 (by decide) h2
    | 1, _, hu => exact absurd rfl hu
    | t + 3, ht, _ => omega
  obtain ⟨r, hp', z1, z2, z3, z4⟩ := pa_loop (by decide) d0 d5 hbo b0 b1 hb hG3 hcount 3001 [(3, .int (Int32.ofNat 0)), (0, .ref 69), (1, .int (Int32.ofNat 1)), (2, .int d)] hp1 0 hK rfl rfl rfl rfl (by decide) (by decide)
  refine ⟨r, hp', px_C_of (N := mm_M_parts) rfl (Nat.le_of_ble_eq_true rfl) ?_, z2, z3, px_fr_tr (px_fr_mono e3 (by decide) (by decide)) z4⟩
  refine px_Z_its (pc1 := 2) (lv1 := [(0, .ref 69), (1, .int (Int32.ofNat 1)), (2, .int d)]) (st1 := [.int 1, .int (Int32.ofNat 1)]) (hp1 := hp) 2 (fun _ _ _ _ => rfl) ?_
  refine px_q_icmp (bb := false) (len := 3) (c := .ne) (off := 8) rfl (by decide) ?_
  refine px_Z_its (pc1 := 7) (lv1 := [(0, .ref 69), (1, .int (Int32.ofNat 1)), (2, .int d)]) (st1 := [.int (Int32.ofNat 0), .ref 69]) (hp1 := hp) 2 (fun _ _ _ _ => rfl) ?_
  refine px_q_virt (len := 3) (n := 1) (a := 69) (N := mm_M_empties) (mi := mi_M_empties) (ci := 9) rfl rfl rfl hx rfl (Nat.le_of_ble_eq_true rfl) (Nat.le_of_ble_eq_true rfl) rfl rfl e1 ?_
  exact px_Z_its (pc1 := 12) (lv1 := [(3, .int (Int32.ofNat 0)), (0, .ref 69), (1, .int (Int32.ofNat 1)), (2, .int d)]) (st1 := []) (hp1 := hp1) 2 (fun _ _ _ _ => rfl) z1
end mg_11

section mg_12
/-! goesThrough: opensAll -/
abbrev oa_ws : List (Nat × Nat) := [(69, nf_putBy), (69, nf_sitting)]
set_option maxHeartbeats 4000000 in
theorem oa_loop {d : Int32} (d0 : 0 ≤ d.toInt) (d5 : d.toInt ≤ 5) : ∀ (m : Nat) (lv : List (Nat × Value)) (hp : px_H) (i : Nat), ab_h nm_GH hp → nm_HI 0 hp → px_find 0 lv = some (.ref 69) → px_find 1 lv = some (.int d) → px_find 2 lv = some (.int (Int32.ofNat i)) → i ≤ 3000 → 3000 < i + m →
    ∃ hp' : px_H, px_Z nm_T none nm_P mm_M_opensAll 7 lv [] hp none hp' ∧ ab_h nm_GH hp' ∧ nm_HI 0 hp' ∧ px_fr oa_ws df_wa hp hp' := by
  intro m
  induction m with
  | zero => intro lv hp i _ _ _ _ _ h1 h2; omega
  | succ m ih =>
    intro lv hp i hG hH l0 l1 l2 hi hm
    obtain ⟨fs, hx, -, -⟩ := ac_obj hG (c := 69) rfl
    obtain ⟨g, hg, hgb⟩ := ac_arrI hG (c := na_size) (t := nr_size) (n := 3) (lo := 0) (hi := 3000) (Nat.le_of_ble_eq_true rfl) rfl
    have hg2 := hgb 2 (by decide)
    have ei := nm_ofNat_toInt i (by omega)
    have head : ∀ (bb : Bool) (r : Option Value) (hp' : px_H), px_cmp .ge (Int32.ofNat i) (g 2) = bb → px_Z nm_T none nm_P mm_M_opensAll (bif bb then 50 else 17) lv [] hp r hp' → px_Z nm_T none nm_P mm_M_opensAll 7 lv [] hp r hp' := by
      intro bb r hp' hc h
      refine px_q_iln (len := 1) (j := 2) rfl l2 ?_
      refine px_q_aln (len := 1) (j := 0) rfl l0 ?_
      refine px_q_get (len := 3) (ci := 9) (k := nf_size) (fs := fs) (v := .ref na_size) rfl rfl hx (nm_f hG hx rfl) ?_
      refine px_Z_its (pc1 := 13) (lv1 := lv) (st1 := [.int 2, .ref na_size, .int (Int32.ofNat i)]) (hp1 := hp) 1 (fun _ _ _ _ => rfl) ?_
      refine px_q_iald (len := 1) rfl hg rfl rfl ?_
      refine px_q_icmp (bb := bb) (len := 3) (c := .ge) (off := 36) rfl hc ?_
      cases bb
      · exact h
      · exact h
    by_cases hge : (g 2).toInt ≤ i
    · refine ⟨hp, head true _ _ ?_ (px_q_ret (len := 1) rfl rfl), hG, hH, px_fr_rf _ _ _⟩
      simp only [px_cmp, decide_eq_true_eq, ge_iff_le, Int32.le_iff_toInt_le, ei]; exact hge
    have hcmp : px_cmp .ge (Int32.ofNat i) (g 2) = false := by simp only [px_cmp, decide_eq_false_iff_not, ge_iff_le, Int32.le_iff_toInt_le, ei]; exact hge
    obtain ⟨o1, h1, -⟩ := ac_arrL hG (c := na_one) (t := nr_one) (n := 9003) (Nat.le_of_ble_eq_true rfl) rfl
    obtain ⟨hp1, gB, c1, c2, c3, c4, c5⟩ := nm_looks hG h1 (tn := 2) (e := i) (by decide) (by omega)
    obtain ⟨fs1, hx1, -, -⟩ := ac_obj c2 (c := 69) rfl
    obtain ⟨r9, hp2, o9, m1, m2, m3, m4, m5, -, m7⟩ := kp_M_opens_0 [.ref 69, .int d] hp1 c2 ⟨⟨rfl, List.mem_cons_self⟩, ⟨rfl, d0, d5⟩, trivial⟩ (fun i hi => by cases hi)
    have hr9 : r9 = none := by
      cases List.mem_singleton.mp m1
      cases r9 with
      | none => rfl
      | some v => exact absurd m4 (by simp [ac_rv])
    subst hr9
    have hH2 : nm_HI 0 hp2 := nm_HI_fr m7 (by decide) (by decide) (nm_HI_fr c3 (by decide) (by decide) hH)
    obtain ⟨fs2, hx2, -, -⟩ := ac_obj m3 (c := 69) rfl
    obtain ⟨pt, hpt, -⟩ := ac_arrL m3 (c := na_part) (t := nr_part) (n := 9003) (Nat.le_of_ble_eq_true rfl) rfl
    obtain ⟨ra, hp3, a1, a2, a3, a4, a5⟩ := nm_adds_C m3 (tn := 0) (by decide) hH2 (pt (2 * 3001 + i))
    obtain ⟨hp', z1, z2, z3, z4⟩ := ih (px_st1 lv 2 (.int (Int32.ofNat (i + 1)))) hp3 (i + 1) a2 a3 (px_st1_nr l0) (ab_sto1_find l1 (by decide) (fun _ hc => by cases hc)) (px_st1_at _ _ _) (by omega) (by omega)
    refine ⟨hp', head false _ _ hcmp ?_, z2, z3, px_fr_tr (px_fr_tr (px_fr_mono c3 (by decide) (by decide)) (px_fr_tr (px_fr_mono m7 (by decide) (by decide)) (px_fr_mono a4 (by decide) (by decide)))) z4⟩
    have hin := nm_inR (2 * 3001 + i) 9003 (by omega) (by decide)
    have hcl := nm_ofNat_clamp (2 * 3001 + i) (by omega)
    have e1 : Int32.ofNat i + Int32.ofInt 1 = Int32.ofNat (i + 1) := by rw [Int32.ofNat_add]; rfl
    have e2 : (Int16.ofInt 6002).toInt32 + Int32.ofNat i = Int32.ofNat (2 * 3001 + i) := by rw [Int32.ofNat_add]; rfl
    refine px_q_aln (pc := 17) (len := 1) (j := 0) rfl l0 ?_
    refine px_Z_its (pc1 := 19) (lv1 := lv) (st1 := [.int (Int32.ofNat 2), .ref 69]) (hp1 := hp) 1 (fun _ _ _ _ => rfl) ?_
    refine px_q_iln (len := 1) (j := 2) rfl l2 ?_
    refine px_q_virt (len := 3) (n := 2) (a := 69) (N := mm_M_looksAt) (mi := mi_M_looksAt) (ci := 9) rfl rfl rfl hx rfl (Nat.le_of_ble_eq_true rfl) (Nat.le_of_ble_eq_true rfl) rfl rfl c1 ?_
    refine px_q_aln (pc := 23) (len := 1) (j := 0) rfl l0 ?_
    refine px_q_iln (len := 1) (j := 1) rfl l1 ?_
    refine px_q_virt (len := 3) (n := 1) (a := 69) (N := mm_M_opens) (mi := mi_M_opens) (ci := 9) rfl rfl rfl hx1 rfl (Nat.le_of_ble_eq_true rfl) (Nat.le_of_ble_eq_true rfl) rfl rfl m2 ?_
    refine px_q_aln (pc := 28) (len := 1) (j := 0) rfl l0 ?_
    refine px_Z_its (pc1 := 30) (lv1 := lv) (st1 := [.int (Int32.ofNat 0), .ref 69]) (hp1 := hp2) 1 (fun _ _ _ _ => rfl) ?_
    refine px_q_aln (len := 1) (j := 0) rfl l0 ?_
    refine px_q_get (len := 3) (ci := 9) (k := nf_part) (fs := fs2) (v := .ref na_part) rfl rfl hx2 (nm_f m3 hx2 rfl) ?_
    refine px_Z_its (pc1 := 37) (lv1 := lv) (st1 := [.int (Int16.ofInt 6002).toInt32, .ref na_part, .int (Int32.ofNat 0), .ref 69]) (hp1 := hp2) 1 (fun _ _ _ _ => rfl) ?_
    refine px_q_iln (len := 1) (j := 2) rfl l2 ?_
    refine px_Z_its (pc1 := 39) (lv1 := lv) (st1 := [.int ((Int16.ofInt 6002).toInt32 + Int32.ofNat i), .ref na_part, .int (Int32.ofNat 0), .ref 69]) (hp1 := hp2) 1 (fun _ _ _ _ => rfl) ?_
    rw [e2]
    refine px_q_lald (len := 1) rfl hpt rfl hin ?_
    rw [hcl]
    refine px_q_virt (len := 3) (n := 2) (a := 69) (N := mm_M_adds) (mi := mi_M_adds) (ci := 9) rfl rfl rfl hx2 rfl (Nat.le_of_ble_eq_true rfl) (Nat.le_of_ble_eq_true rfl) rfl rfl a1 ?_
    refine px_Z_its (pc1 := 44) (lv1 := lv) (st1 := []) (hp1 := hp3) 1 (fun _ _ _ _ => by rcases a5 with rfl | rfl <;> rfl) ?_
    refine px_q_iinc (len := 3) (j := 2) (n := 1) rfl l2 rfl ?_
    rw [e1]
    exact px_Z_its (pc1 := 7) (lv1 := px_st1 lv 2 (.int (Int32.ofNat (i + 1)))) (st1 := []) (hp1 := hp3) 1 (fun _ _ _ _ => rfl) z1
theorem oa_C {d : Int32} (d0 : 0 ≤ d.toInt) (d5 : d.toInt ≤ 5) {hp : px_H} (hG : ab_h nm_GH hp) : ∃ hp' : px_H, px_C nm_T nm_P mi_M_opensAll [.ref 69, .int d] hp none hp' ∧ ab_h nm_GH hp' ∧ nm_HI 0 hp' ∧ px_fr oa_ws df_wa hp hp' := by
  obtain ⟨fs, hx, -, -⟩ := ac_obj hG (c := 69) rfl
  obtain ⟨hp1, e1, e2, e3, e4, -⟩ := nm_empt hG (tn := 0) (by decide)
  obtain ⟨hp', z1, z2, z3, z4⟩ := oa_loop d0 d5 3001 [(2, .int (Int32.ofNat 0)), (0, .ref 69), (1, .int d)] hp1 0 e2 e4 rfl rfl rfl (by decide) (by decide)
  refine ⟨hp', px_C_of (N := mm_M_opensAll) rfl (Nat.le_of_ble_eq_true rfl) ?_, z2, z3, px_fr_tr (px_fr_mono e3 (by decide) (by decide)) z4⟩
  refine px_Z_its (pc1 := 2) (lv1 := [(0, .ref 69), (1, .int d)]) (st1 := [.int (Int32.ofNat 0), .ref 69]) (hp1 := hp) 2 (fun _ _ _ _ => rfl) ?_
  refine px_q_virt (len := 3) (n := 1) (a := 69) (N := mm_M_empties) (mi := mi_M_empties) (ci := 9) rfl rfl rfl hx rfl (Nat.le_of_ble_eq_true rfl) (Nat.le_of_ble_eq_true rfl) rfl rfl e1 ?_
  exact px_Z_its (pc1 := 7) (lv1 := [(2, .int (Int32.ofNat 0)), (0, .ref 69), (1, .int d)]) (st1 := []) (hp1 := hp1) 2 (fun _ _ _ _ => rfl) z1
end mg_12

section mg_13
/-! goesThrough: the inner loop -/
abbrev gt_ws : List (Nat × Nat) := [(69, nf_putBy), (69, nf_sitting), (69, nf_next), (69, nf_drawnSum), (69, nf_vainSum)]
set_option maxHeartbeats 4000000 in
theorem gt_inner {o : Nat → Int64} {G0 : Int32} {gO gS : Nat → Int32} {b n : Nat} {d bo : Int32} (d0 : 0 ≤ d.toInt) (d5 : d.toInt ≤ 5) (hbo : gO d.toNatClampNeg = bo) (b0 : 0 ≤ bo.toInt) (b1 : bo.toInt ≤ 1) (hb : bo.toNatClampNeg = b) (hG3 : G0.toInt ≤ 3000) (hcount : ∀ e : Nat, (e : Int) < G0.toInt → (nm_bc (nm_bg b (o e))).toInt ≤ n) :
    ∀ (m : Nat) (lv : List (Nat × Value)) (hp : px_H) (i : Nat) (on : Int32), df_K o G0 gO b ((n : Int) - 1) hp → hp[na_seatsOf]? = some (.inl (nr_seatsOf, 6, .inl gS)) → px_find 0 lv = some (.ref 69) → px_find 1 lv = some (.int d) → px_find 2 lv = some (.int on) → px_find 3 lv = some (.int (Int32.ofNat i)) → (on = 0 ∨ on = 1) → (n = 0 → on = 0) → i ≤ 3000 → 3000 < i + m →
    (∃ hp' : px_H, px_Z nm_T none nm_P mm_M_goesThrough 46 lv [] hp (some (.int 0)) hp' ∧ ab_h nm_GH hp' ∧ px_fr gt_ws df_wa hp hp') ∨
    (∃ (lv' : List (Nat × Value)) (hp' : px_H) (on' : Int32), (∀ (r : Option Value) (h9 : px_H), px_Z nm_T none nm_P mm_M_goesThrough 89 lv' [] hp' r h9 → px_Z nm_T none nm_P mm_M_goesThrough 46 lv [] hp r h9) ∧ df_K o G0 gO b ((n : Int) - 1) hp' ∧ hp'[na_seatsOf]? = some (.inl (nr_seatsOf, 6, .inl gS)) ∧ px_find 0 lv' = some (.ref 69) ∧ px_find 1 lv' = some (.int d) ∧ px_find 2 lv' = some (.int on') ∧ (on' = 0 ∨ on' = 1) ∧ (n = 0 → on' = 0) ∧ px_fr gt_ws df_wa hp hp') := by
  intro m
  induction m with
  | zero => intro lv hp i on _ _ _ _ _ _ _ _ h1 h2; omega
  | succ m ih =>
    intro lv hp i on hK hS l0 l1 l2 l3 hon hn0 hi hm
    have hK0 := hK
    obtain ⟨hG, hH, hT0, hT1, ⟨g, hg, hg0⟩, hO⟩ := hK
    obtain ⟨fs, hx, -, -⟩ := ac_obj hG (c := 69) rfl
    have ei := nm_ofNat_toInt i (by omega)
    have head : ∀ (bb : Bool) (r : Option Value) (hp' : px_H), px_cmp .ge (Int32.ofNat i) G0 = bb → px_Z nm_T none nm_P mm_M_goesThrough (bif bb then 89 else 56) lv [] hp r hp' → px_Z nm_T none nm_P mm_M_goesThrough 46 lv [] hp r hp' := by
      intro bb r hp' hc h
      refine px_q_iln (len := 1) (j := 3) rfl l3 ?_
      refine px_q_aln (len := 1) (j := 0) rfl l0 ?_
      refine px_q_get (len := 3) (ci := 9) (k := nf_size) (fs := fs) (v := .ref na_size) rfl rfl hx (nm_f hG hx rfl) ?_
      refine px_Z_its (pc1 := 52) (lv1 := lv) (st1 := [.int 0, .ref na_size, .int (Int32.ofNat i)]) (hp1 := hp) 1 (fun _ _ _ _ => rfl) ?_
      refine px_q_iald (len := 1) rfl hg rfl rfl ?_
      rw [show (0 : Int32).toNatClampNeg = 0 from rfl, hg0]
      refine px_q_icmp (bb := bb) (len := 3) (c := .ge) (off := 36) rfl hc ?_
      cases bb
      · exact h
      · exact h
    by_cases hge : G0.toInt ≤ i
    · refine Or.inr ⟨lv, hp, on, fun r h9 h => head true _ _ ?_ h, hK0, hS, l0, l1, l2, hon, hn0, px_fr_rf _ _ _⟩
      simp only [px_cmp, decide_eq_true_eq, ge_iff_le, Int32.le_iff_toInt_le, ei]; exact hge
    have hcmp : px_cmp .ge (Int32.ofNat i) G0 = false := by simp only [px_cmp, decide_eq_false_iff_not, ge_iff_le, Int32.le_iff_toInt_le, ei]; exact hge
    have e1 : Int32.ofNat i + Int32.ofInt 1 = Int32.ofNat (i + 1) := by rw [Int32.ofNat_add]; rfl
    have hT0' := hT0
    obtain ⟨gq, o1, s1, s2, s3⟩ := hT0'
    rw [hg] at s1
    cases s1
    have hil : (i : Int) < G0.toInt := by omega
    have ho1 : o1 (0 * 3001 + i) = o i := s3 i (by rw [hg0]; exact hil)
    obtain ⟨hp1, gB, c1, c2, c3, c4, c5⟩ := nm_looks hG s2 (tn := 0) (e := i) (by decide) (by omega)
    have hK1 : df_K o G0 gO b ((n : Int) - 1) hp1 := df_K_fr c3 c2 (by decide) (by decide) (by decide) (by decide) hK0
    have hS1 := c3.1 na_seatsOf _ (by decide) hS
    have hb2 : b < 2 := by rw [← hb]; unfold Int32.toNatClampNeg; omega
    have hgw : gB bo.toNatClampNeg = nm_bg b (o i) := by rw [hb, c5 b hb2, ho1]
    obtain ⟨gB', hB', bB⟩ := ac_arrI c2 (c := na_inBag) (t := nr_inBag) (n := 2) (lo := 0) (hi := 1023) (Nat.le_of_ble_eq_true rfl) rfl
    rw [c4] at hB'
    cases hB'
    have hwb := bB bo.toNatClampNeg (by rw [hb]; exact hb2)
    rw [hgw] at hwb
    obtain ⟨fs1, hx1, -, -⟩ := ac_obj c2 (c := 69) rfl
    obtain ⟨sv1, hs1, -, -⟩ := nm_fI c2 hx1 (k := nf_sitting) (a := 0) (b := 1023) rfl
    obtain ⟨ov, hov, hr01, hr0⟩ := nm_over c2 hx1 c4 hK1.2.2.2.2.2 hS1 hs1 d0 d5 hbo b0 b1
    have hfr1 : px_fr gt_ws df_wa hp hp1 := px_fr_mono c3 (by decide) (by decide)
    have pre : ∀ (r : Option Value) (h9 : px_H), px_Z nm_T none nm_P mm_M_goesThrough 67 lv [.int ov] hp1 r h9 → px_Z nm_T none nm_P mm_M_goesThrough 46 lv [] hp r h9 := by
      intro r h9 h
      refine head false _ _ hcmp ?_
      refine px_q_aln (pc := 56) (len := 1) (j := 0) rfl l0 ?_
      refine px_Z_its (pc1 := 58) (lv1 := lv) (st1 := [.int (Int32.ofNat 0), .ref 69]) (hp1 := hp) 1 (fun _ _ _ _ => rfl) ?_
      refine px_q_iln (len := 1) (j := 3) rfl l3 ?_
      refine px_q_virt (len := 3) (n := 2) (a := 69) (N := mm_M_looksAt) (mi := mi_M_looksAt) (ci := 9) rfl rfl rfl hx rfl (Nat.le_of_ble_eq_true rfl) (Nat.le_of_ble_eq_true rfl) rfl rfl c1 ?_
      refine px_q_aln (pc := 62) (len := 1) (j := 0) rfl l0 ?_
      refine px_q_iln (len := 1) (j := 1) rfl l1 ?_
      exact px_q_virt (len := 3) (n := 1) (a := 69) (N := mm_M_isOver) (mi := mi_M_isOver) (ci := 9) rfl rfl rfl hx1 rfl (Nat.le_of_ble_eq_true rfl) (Nat.le_of_ble_eq_true rfl) rfl rfl hov h
    have nxt : ∀ (lv2 : List (Nat × Value)) (hq : px_H) (on2 : Int32), (∀ (r : Option Value) (h9 : px_H), px_Z nm_T none nm_P mm_M_goesThrough 83 lv2 [] hq r h9 → px_Z nm_T none nm_P mm_M_goesThrough 46 lv [] hp r h9) → df_K o G0 gO b ((n : Int) - 1) hq → hq[na_seatsOf]? = some (.inl (nr_seatsOf, 6, .inl gS)) → px_find 0 lv2 = some (.ref 69) → px_find 1 lv2 = some (.int d) → px_find 2 lv2 = some (.int on2) → px_find 3 lv2 = some (.int (Int32.ofNat i)) → (on2 = 0 ∨ on2 = 1) → (n = 0 → on2 = 0) → px_fr gt_ws df_wa hp hq → ((∃ hp' : px_H, px_Z nm_T none nm_P mm_M_goesThrough 46 lv [] hp (some (.int 0)) hp' ∧ ab_h nm_GH hp' ∧ px_fr gt_ws df_wa hp hp') ∨     (∃ (lv' : List (Nat × Value)) (hp' : px_H) (on' : Int32), (∀ (r : Option Value) (h9 : px_H), px_Z nm_T none nm_P mm_M_goesThrough 89 lv' [] hp' r h9 → px_Z nm_T none nm_P mm_M_goesThrough 46 lv [] hp r h9) ∧ df_K o G0 gO b ((n : Int) - 1) hp' ∧ hp'[na_seatsOf]? = some (.inl (nr_seatsOf, 6, .inl gS)) ∧ px_find 0 lv' = some (.ref 69) ∧ px_find 1 lv' = some (.int d) ∧ px_find 2 lv' = some (.int on') ∧ (on' = 0 ∨ on' = 1) ∧ (n = 0 → on' = 0) ∧ px_fr gt_ws df_wa hp hp')) := by
      intro lv2 hq on2 hz hKq hSq k0 k1 k2 k3 hon2 hn2 hfq
      have step : ∀ (r : Option Value) (h9 : px_H), px_Z nm_T none nm_P mm_M_goesThrough 46 (px_st1 lv2 3 (.int (Int32.ofNat (i + 1)))) [] hq r h9 → px_Z nm_T none nm_P mm_M_goesThrough 46 lv [] hp r h9 := by
        intro r h9 h
        refine hz _ _ ?_
        refine px_q_iinc (len := 3) (j := 3) (n := 1) rfl k3 rfl ?_
        rw [e1]
        exact px_Z_its (pc1 := 46) (lv1 := px_st1 lv2 3 (.int (Int32.ofNat (i + 1)))) (st1 := []) (hp1 := hq) 1 (fun _ _ _ _ => rfl) h
      rcases ih (px_st1 lv2 3 (.int (Int32.ofNat (i + 1)))) hq (i + 1) on2 hKq hSq (px_st1_nr k0) (px_st1_ne k1) (ab_sto1_find k2 (by decide) (fun _ hc => by cases hc)) (px_st1_at _ _ _) hon2 hn2 (by omega) (by omega) with ⟨hp', z1, z2, z3⟩ | ⟨lv', hp', on', z1, z2, z3, z4, z5, z6, z7, z8, z9⟩
      · exact Or.inl ⟨hp', step _ _ z1, z2, px_fr_tr hfq z3⟩
      · exact Or.inr ⟨lv', hp', on', fun r h9 h => step _ _ (z1 _ _ h), z2, z3, z4, z5, z6, z7, z8, px_fr_tr hfq z9⟩
    rcases hr01 with rfl | rfl
    rotate_left
    · exact nxt lv hp1 on (fun r h9 h => pre _ _ (px_q_if (bb := true) (len := 3) (c := .ne) (off := 16) rfl (by decide) h)) hK1 hS1 l0 l1 l2 l3 hon hn0 hfr1
    obtain ⟨hw0, -⟩ := hr0 rfl
    rw [hgw] at hw0
    have hci := hcount i hil
    obtain ⟨r, hp2, q1, q2, q3, q4⟩ := df_C hK1 d0 d5 hbo b0 b1 hb hil (by omega) hw0 (by omega)
    have hfr2 : px_fr gt_ws df_wa hp hp2 := px_fr_tr hfr1 (px_fr_mono q4 (by decide) (by decide))
    have hw1 : 1 ≤ (nm_bg b (o i)).toInt := by
      have : (nm_bg b (o i)).toInt ≠ 0 := fun h => hw0 (by rw [← Int32.toInt_inj, h, Int32.toInt_zero])
      omega
    have hb10 := nm_bc_10 _ hw1 hwb.2
    have pre2 : ∀ (r9 : Option Value) (h9 : px_H), px_Z nm_T none nm_P mm_M_goesThrough 78 (px_st1 lv 2 (.int 1)) [.int r] hp2 r9 h9 → px_Z nm_T none nm_P mm_M_goesThrough 46 lv [] hp r9 h9 := by
      intro r9 h9 h
      refine pre _ _ ?_
      refine px_q_if (bb := false) (len := 3) (c := .ne) (off := 16) rfl (by decide) ?_
      refine px_Z_its (pc1 := 72) (lv1 := px_st1 lv 2 (.int 1)) (st1 := []) (hp1 := hp1) 2 (fun _ _ _ _ => rfl) ?_
      refine px_q_aln (len := 1) (j := 0) rfl (px_st1_nr l0) ?_
      refine px_q_iln (len := 1) (j := 3) rfl (ab_sto1_find l3 (by decide) (fun _ hc => by cases hc)) ?_
      refine px_q_iln (len := 1) (j := 1) rfl (ab_sto1_find l1 (by decide) (fun _ hc => by cases hc)) ?_
      exact px_q_virt (len := 3) (n := 2) (a := 69) (N := mm_M_drawsFrom) (mi := mi_M_drawsFrom) (ci := 9) rfl rfl rfl hx1 rfl (Nat.le_of_ble_eq_true rfl) (Nat.le_of_ble_eq_true rfl) rfl rfl q1 h
    rcases q2 with rfl | rfl
    · refine Or.inl ⟨hp2, pre2 _ _ ?_, q3.1, hfr2⟩
      refine px_q_if (bb := false) (len := 3) (c := .ne) (off := 5) rfl (by decide) ?_
      refine px_Z_its (pc1 := 82) (lv1 := px_st1 lv 2 (.int 1)) (st1 := [.int 0]) (hp1 := hp2) 1 (fun _ _ _ _ => rfl) ?_
      exact px_q_iret (len := 1) (ty := .boolean) rfl rfl rfl
    · exact nxt (px_st1 lv 2 (.int 1)) hp2 1 (fun r h9 h => pre2 _ _ (px_q_if (bb := true) (len := 3) (c := .ne) (off := 5) rfl (by decide) h)) q3 (q4.1 na_seatsOf _ (by decide) hS1) (px_st1_nr l0) (ab_sto1_find l1 (by decide) (fun _ hc => by cases hc)) (px_st1_at _ _ _) (ab_sto1_find l3 (by decide) (fun _ hc => by cases hc)) (Or.inr rfl) (fun h => by omega) hfr2
end mg_13

section mg_14
/-! goesThrough: the outer loop and the contract -/
set_option maxHeartbeats 4000000 in
theorem gt_outer {gO gS : Nat → Int32} {b : Nat} {d bo : Int32} (d0 : 0 ≤ d.toInt) (d5 : d.toInt ≤ 5) (hbo : gO d.toNatClampNeg = bo) (b0 : 0 ≤ bo.toInt) (b1 : bo.toInt ≤ 1) (hb : bo.toNatClampNeg = b) :
    ∀ (n : Nat) (lv : List (Nat × Value)) (hp : px_H), ab_h nm_GH hp → nm_HI 0 hp → nm_HI 2 hp → nm_TE 0 (fun _ v => (nm_bc (nm_bg b v)).toInt ≤ n) hp → hp[na_bagOf]? = some (.inl (nr_bagOf, 6, .inl gO)) → hp[na_seatsOf]? = some (.inl (nr_seatsOf, 6, .inl gS)) → px_find 0 lv = some (.ref 69) → px_find 1 lv = some (.int d) → px_find 2 lv = some (.int 1) →
    ∃ (r : Int32) (hp' : px_H), px_Z nm_T none nm_P mm_M_goesThrough 33 lv [] hp (some (.int r)) hp' ∧ (r = 0 ∨ r = 1) ∧ ab_h nm_GH hp' ∧ px_fr gt_ws df_wa hp hp' := by
  intro n
  induction n with
  | zero =>
    intro lv hp hG hH0 hH2 hT hO hS l0 l1 l2
    obtain ⟨fs, hx, -, -⟩ := ac_obj hG (c := 69) rfl
    obtain ⟨hp1, e1, e2, e3, e4, e5, e6, e7, e8⟩ := nm_empt hG (tn := 1) (by decide)
    obtain ⟨g, o1, t1, t2, t3⟩ := e7 0 _ (by decide) hT
    obtain ⟨g', hg', hgb⟩ := ac_arrI e2 (c := na_size) (t := nr_size) (n := 3) (lo := 0) (hi := 3000) (Nat.le_of_ble_eq_true rfl) rfl
    rw [t1] at hg'
    cases hg'
    have hg0 := hgb 0 (by decide)
    have hK : df_K (fun e => o1 (0 * 3001 + e)) (g 0) gO b (((0 : Nat) : Int) - 1) hp1 := by
      refine ⟨e2, fun t ht => ?_, ⟨g, o1, t1, t2, fun e _ => rfl⟩, e6 _, ⟨g, t1, rfl⟩, e3.1 _ _ (by decide) hO⟩
      match t, ht with
      | 0, _ => exact e5 0 (by decide) hH0
      | 1, _ => exact e4
      | 2, _ => exact e5 2 (by decide) hH2
      | t + 3, ht => omega
    have pre : ∀ (r : Option Value) (h9 : px_H), px_Z nm_T none nm_P mm_M_goesThrough 46 (px_st1 (px_st1 lv 2 (.int 0)) 3 (.int (Int32.ofNat 0))) [] hp1 r h9 → px_Z nm_T none nm_P mm_M_goesThrough 33 lv [] hp r h9 := by
      intro r h9 h
      refine px_q_iln (len := 1) (j := 2) rfl l2 ?_
      refine px_q_if (bb := false) (len := 3) (c := .eq) (off := 70) rfl (by decide) ?_
      refine px_q_aln (pc := 37) (len := 1) (j := 0) rfl l0 ?_
      refine px_Z_its (pc1 := 39) (lv1 := lv) (st1 := [.int (Int32.ofNat 1), .ref 69]) (hp1 := hp) 1 (fun _ _ _ _ => rfl) ?_
      refine px_q_virt (len := 3) (n := 1) (a := 69) (N := mm_M_empties) (mi := mi_M_empties) (ci := 9) rfl rfl rfl hx rfl (Nat.le_of_ble_eq_true rfl) (Nat.le_of_ble_eq_true rfl) rfl rfl e1 ?_
      exact px_Z_its (pc1 := 46) (lv1 := px_st1 (px_st1 lv 2 (.int 0)) 3 (.int (Int32.ofNat 0))) (st1 := []) (hp1 := hp1) 4 (fun _ _ _ _ => rfl) h
    have hf1 : px_fr gt_ws df_wa hp hp1 := px_fr_mono e3 (by decide) (by decide)
    rcases gt_inner (n := 0) d0 d5 hbo b0 b1 hb hg0.2 (fun e he => t3 e he) 3001 (px_st1 (px_st1 lv 2 (.int 0)) 3 (.int (Int32.ofNat 0))) hp1 0 0 hK (e3.1 _ _ (by decide) hS) (px_st1_nr (px_st1_nr l0)) (px_st1_ne (ab_sto1_find l1 (by decide) (fun _ hc => by cases hc))) (ab_sto1_find (px_st1_at _ _ _) (by decide) (fun _ hc => by cases hc)) (px_st1_at _ _ _) (Or.inl rfl) (fun _ => rfl) (by decide) (by decide) with ⟨hp', z1, z2, z3⟩ | ⟨lv', hp', on', z1, z2, z3, z4, z5, z6, z7, z8, z9⟩
    · exact ⟨0, hp', pre _ _ z1, Or.inl rfl, z2, px_fr_tr hf1 z3⟩
    · have h0 := z8 rfl
      subst h0
      refine ⟨1, hp', pre _ _ (z1 _ _ ?_), Or.inr rfl, z2.1, px_fr_tr hf1 z9⟩
      refine px_q_iln (len := 1) (j := 2) rfl z6 ?_
      refine px_q_if (bb := true) (len := 3) (c := .eq) (off := -57) rfl (by decide) ?_
      refine px_q_iln (pc := 33) (len := 1) (j := 2) rfl z6 ?_
      refine px_q_if (bb := true) (len := 3) (c := .eq) (off := 70) rfl (by decide) ?_
      refine px_Z_its (pc1 := 105) (lv1 := lv') (st1 := [.int 1]) (hp1 := hp') 1 (fun _ _ _ _ => rfl) ?_
      exact px_q_iret (len := 1) (ty := .boolean) rfl rfl rfl
  | succ k ih =>
    intro lv hp hG hH0 hH2 hT hO hS l0 l1 l2
    obtain ⟨fs, hx, -, -⟩ := ac_obj hG (c := 69) rfl
    obtain ⟨hp1, e1, e2, e3, e4, e5, e6, e7, e8⟩ := nm_empt hG (tn := 1) (by decide)
    obtain ⟨g, o1, t1, t2, t3⟩ := e7 0 _ (by decide) hT
    obtain ⟨g', hg', hgb⟩ := ac_arrI e2 (c := na_size) (t := nr_size) (n := 3) (lo := 0) (hi := 3000) (Nat.le_of_ble_eq_true rfl) rfl
    rw [t1] at hg'
    cases hg'
    have hg0 := hgb 0 (by decide)
    have hK : df_K (fun e => o1 (0 * 3001 + e)) (g 0) gO b (((k + 1 : Nat) : Int) - 1) hp1 := by
      refine ⟨e2, fun t ht => ?_, ⟨g, o1, t1, t2, fun e _ => rfl⟩, e6 _, ⟨g, t1, rfl⟩, e3.1 _ _ (by decide) hO⟩
      match t, ht with
      | 0, _ => exact e5 0 (by decide) hH0
      | 1, _ => exact e4
      | 2, _ => exact e5 2 (by decide) hH2
      | t + 3, ht => omega
    have pre : ∀ (r : Option Value) (h9 : px_H), px_Z nm_T none nm_P mm_M_goesThrough 46 (px_st1 (px_st1 lv 2 (.int 0)) 3 (.int (Int32.ofNat 0))) [] hp1 r h9 → px_Z nm_T none nm_P mm_M_goesThrough 33 lv [] hp r h9 := by
      intro r h9 h
      refine px_q_iln (len := 1) (j := 2) rfl l2 ?_
      refine px_q_if (bb := false) (len := 3) (c := .eq) (off := 70) rfl (by decide) ?_
      refine px_q_aln (pc := 37) (len := 1) (j := 0) rfl l0 ?_
      refine px_Z_its (pc1 := 39) (lv1 := lv) (st1 := [.int (Int32.ofNat 1), .ref 69]) (hp1 := hp) 1 (fun _ _ _ _ => rfl) ?_
      refine px_q_virt (len := 3) (n := 1) (a := 69) (N := mm_M_empties) (mi := mi_M_empties) (ci := 9) rfl rfl rfl hx rfl (Nat.le_of_ble_eq_true rfl) (Nat.le_of_ble_eq_true rfl) rfl rfl e1 ?_
      exact px_Z_its (pc1 := 46) (lv1 := px_st1 (px_st1 lv 2 (.int 0)) 3 (.int (Int32.ofNat 0))) (st1 := []) (hp1 := hp1) 4 (fun _ _ _ _ => rfl) h
    have hf1 : px_fr gt_ws df_wa hp hp1 := px_fr_mono e3 (by decide) (by decide)
    rcases gt_inner (n := k + 1) d0 d5 hbo b0 b1 hb hg0.2 (fun e he => t3 e he) 3001 (px_st1 (px_st1 lv 2 (.int 0)) 3 (.int (Int32.ofNat 0))) hp1 0 0 hK (e3.1 _ _ (by decide) hS) (px_st1_nr (px_st1_nr l0)) (px_st1_ne (ab_sto1_find l1 (by decide) (fun _ hc => by cases hc))) (ab_sto1_find (px_st1_at _ _ _) (by decide) (fun _ hc => by cases hc)) (px_st1_at _ _ _) (Or.inl rfl) (fun _ => rfl) (by decide) (by decide) with ⟨hp', z1, z2, z3⟩ | ⟨lv', hp', on', z1, z2, z3, z4, z5, z6, z7, z8, z9⟩
    · exact ⟨0, hp', pre _ _ z1, Or.inl rfl, z2, px_fr_tr hf1 z3⟩
    · rcases z7 with rfl | rfl
      · refine ⟨1, hp', pre _ _ (z1 _ _ ?_), Or.inr rfl, z2.1, px_fr_tr hf1 z9⟩
        refine px_q_iln (len := 1) (j := 2) rfl z6 ?_
        refine px_q_if (bb := true) (len := 3) (c := .eq) (off := -57) rfl (by decide) ?_
        refine px_q_iln (pc := 33) (len := 1) (j := 2) rfl z6 ?_
        refine px_q_if (bb := true) (len := 3) (c := .eq) (off := 70) rfl (by decide) ?_
        refine px_Z_its (pc1 := 105) (lv1 := lv') (st1 := [.int 1]) (hp1 := hp') 1 (fun _ _ _ _ => rfl) ?_
        exact px_q_iret (len := 1) (ty := .boolean) rfl rfl rfl
      · obtain ⟨w1, w2, w3, w4, ⟨gs, w5, w6⟩, w7⟩ := z2
        obtain ⟨g2, o2, s1, s2, s3⟩ := w4
        obtain ⟨g3, hg3, hgb3⟩ := ac_arrI w1 (c := na_size) (t := nr_size) (n := 3) (lo := 0) (hi := 3000) (Nat.le_of_ble_eq_true rfl) rfl
        rw [s1] at hg3
        cases hg3
        have hg1 := hgb3 1 (by decide)
        obtain ⟨fs', hx', -, -⟩ := ac_obj w1 (c := 69) rfl
        obtain ⟨r, hp2, c1, c2, c3, c4⟩ := pa_C1 (o := fun e => o2 (1 * 3001 + e)) (Gt := g2 1) (c := (k : Int)) (b := b) w1 (w2 2 (by decide)) ⟨g2, o2, s1, s2, fun e _ => rfl⟩ ⟨g2, s1, rfl⟩ w7 z3 d0 d5 hbo b0 b1 hb hg1.2 (fun e he => by have := s3 e he; simp only at this ⊢; omega)
        have hf2 : px_fr gt_ws df_wa hp hp2 := px_fr_tr (px_fr_tr hf1 z9) (px_fr_mono c4 (by decide) (by decide))
        have pre2 : ∀ (r9 : Option Value) (h9 : px_H), px_Z nm_T none nm_P mm_M_goesThrough 99 lv' [.int r] hp2 r9 h9 → px_Z nm_T none nm_P mm_M_goesThrough 33 lv [] hp r9 h9 := by
          intro r9 h9 h
          refine pre _ _ (z1 _ _ ?_)
          refine px_q_iln (len := 1) (j := 2) rfl z6 ?_
          refine px_q_if (bb := false) (len := 3) (c := .eq) (off := -57) rfl (by decide) ?_
          refine px_q_aln (pc := 93) (len := 1) (j := 0) rfl z4 ?_
          refine px_Z_its (pc1 := 95) (lv1 := lv') (st1 := [.int (Int32.ofNat 1), .ref 69]) (hp1 := hp') 1 (fun _ _ _ _ => rfl) ?_
          refine px_q_iln (len := 1) (j := 1) rfl z5 ?_
          exact px_q_virt (len := 3) (n := 2) (a := 69) (N := mm_M_parts) (mi := mi_M_parts) (ci := 9) rfl rfl rfl hx' rfl (Nat.le_of_ble_eq_true rfl) (Nat.le_of_ble_eq_true rfl) rfl rfl c1 h
        rcases c2 with rfl | rfl
        · refine ⟨0, hp2, pre2 _ _ ?_, Or.inl rfl, c3.1, hf2⟩
          refine px_q_if (bb := false) (len := 3) (c := .ne) (off := -66) rfl (by decide) ?_
          refine px_Z_its (pc1 := 103) (lv1 := lv') (st1 := [.int 0]) (hp1 := hp2) 1 (fun _ _ _ _ => rfl) ?_
          exact px_q_iret (len := 1) (ty := .boolean) rfl rfl rfl
        · obtain ⟨y1, y2, -, y4, -, y6, y7⟩ := c3
          obtain ⟨r, hp', q1, q2, q3, q4⟩ := ih lv' hp2 y1 (y2 0 (by decide) (by decide)) (y2 2 (by decide) (by decide)) y4 y6 y7 z4 z5 z6
          exact ⟨r, hp', pre2 _ _ (px_q_if (bb := true) (len := 3) (c := .ne) (off := -66) rfl (by decide) q1), q2, q3, px_fr_tr hf2 q4⟩
set_option maxHeartbeats 4000000 in
theorem kp_M_goesThrough_0 : nm_ok kc_M_goesThrough_0 := by
  intro av hp hG hgs hfl
  obtain ⟨v, w, rfl, hv, hw⟩ := nm_arg2 hgs
  obtain ⟨c, rfl, hc⟩ := ab_f2 hv
  cases List.mem_singleton.mp hc
  obtain ⟨d, rfl, hd⟩ := ab_f0 hw
  have d0 := hd.1
  have d5 := hd.2
  simp only at d0 d5
  have fin : (∃ (r : Int32) (hp' : px_H), px_Z nm_T none nm_P mm_M_goesThrough 0 (lv_args 0 [.ref 69, .int d]) [] hp (some (.int r)) hp' ∧ (r = 0 ∨ r = 1) ∧ ab_h nm_GH hp' ∧ px_fr gt_ws df_wa hp hp') →
      ∃ (r : Option Value) (hp' : px_H) (o : Option ab_F × List (Nat × ab_B) × List Nat), o ∈ kc_M_goesThrough_0.2.2.2.1 ∧ px_C nm_T nm_P kc_M_goesThrough_0.1 [.ref 69, .int d] hp r hp' ∧ ab_h nm_GH hp' ∧ ac_rv o.1 r ∧ (∀ q ∈ o.2.1, ∃ v z, [Value.ref 69, .int d][q.1]? = some v ∧ ab_num v = some z ∧ ab_in q.2 z) ∧ (∀ i ∈ o.2.2, nm_Φ i hp') ∧ px_fr kc_M_goesThrough_0.2.2.2.2.1 kc_M_goesThrough_0.2.2.2.2.2 hp hp' := by
    rintro ⟨r, hp', z1, z2, z3, z4⟩
    refine ⟨some (.int r), hp', _, List.mem_cons_self, px_C_of (N := mm_M_goesThrough) rfl (Nat.le_of_ble_eq_true rfl) z1, z3, ?_, fun q hq => (by cases hq), fun i hi => (by cases hi), px_fr_mono z4 (by decide) (by decide)⟩
    rcases z2 with rfl | rfl
    · exact ⟨rfl, by decide, by decide⟩
    · exact ⟨rfl, by decide, by decide⟩
  refine fin ?_
  obtain ⟨fs, hx, -, -⟩ := ac_obj hG (c := 69) rfl
  obtain ⟨ds, hds⟩ := nm_fJ hG hx (k := nf_drawnSum) (a := -9223372036854775808) (b := 9223372036854775807) rfl
  have hkd : nf_drawnSum < fs.length := (List.getElem?_eq_some_iff.mp hds).1
  have hl69 : 69 < hp.length := (List.getElem?_eq_some_iff.mp hx).1
  have hG1 : ab_h nm_GH (hp.set 69 (.inr (9, fs.set nf_drawnSum (.long 0)))) := nm_h_obj hG hx (f := (1, -9223372036854775808, 9223372036854775807, [])) (fun FS h => by cases h; rfl) ⟨rfl, ab_i64 _⟩
  have hf1 : px_fr gt_ws df_wa hp (hp.set 69 (.inr (9, fs.set nf_drawnSum (.long 0)))) := px_fr_obj hx (by decide)
  have hx1 : (hp.set 69 (.inr (9, fs.set nf_drawnSum (.long 0))))[69]? = some (.inr (9, fs.set nf_drawnSum (.long 0))) := List.getElem?_set_self hl69
  generalize hh1 : hp.set 69 (.inr (9, fs.set nf_drawnSum (.long 0))) = hpA at hG1 hf1 hx1
  generalize hff1 : fs.set nf_drawnSum (.long 0) = fsA at hx1
  obtain ⟨vs, hvs⟩ := nm_fJ hG1 hx1 (k := nf_vainSum) (a := -9223372036854775808) (b := 9223372036854775807) rfl
  have hkv : nf_vainSum < fsA.length := (List.getElem?_eq_some_iff.mp hvs).1
  have hlA : 69 < hpA.length := (List.getElem?_eq_some_iff.mp hx1).1
  have hG2 : ab_h nm_GH (hpA.set 69 (.inr (9, fsA.set nf_vainSum (.long 0)))) := nm_h_obj hG1 hx1 (f := (1, -9223372036854775808, 9223372036854775807, [])) (fun FS h => by cases h; rfl) ⟨rfl, ab_i64 _⟩
  have hf2 : px_fr gt_ws df_wa hpA (hpA.set 69 (.inr (9, fsA.set nf_vainSum (.long 0)))) := px_fr_obj hx1 (by decide)
  have hx2 : (hpA.set 69 (.inr (9, fsA.set nf_vainSum (.long 0))))[69]? = some (.inr (9, fsA.set nf_vainSum (.long 0))) := List.getElem?_set_self hlA
  generalize hh2 : hpA.set 69 (.inr (9, fsA.set nf_vainSum (.long 0))) = hpB at hG2 hf2 hx2
  generalize hff2 : fsA.set nf_vainSum (.long 0) = fsB at hx2
  obtain ⟨hp3, c1, c2, c3, c4⟩ := oa_C d0 d5 hG2
  obtain ⟨fs3, hx3, -, -⟩ := ac_obj c2 (c := 69) rfl
  obtain ⟨hp4, e1, e2, e3, e4, e5, e6, e7, e8⟩ := nm_empt c2 (tn := 2) (by decide)
  obtain ⟨fs4, hx4, -, -⟩ := ac_obj e2 (c := 69) rfl
  obtain ⟨gO, hO, bO⟩ := ac_arrI e2 (c := na_bagOf) (t := nr_bagOf) (n := 6) (lo := 0) (hi := 1) (Nat.le_of_ble_eq_true rfl) rfl
  obtain ⟨gS, hS, -⟩ := ac_arrI e2 (c := na_seatsOf) (t := nr_seatsOf) (n := 6) (lo := 0) (hi := 3) (Nat.le_of_ble_eq_true rfl) rfl
  obtain ⟨g, hg, hgb⟩ := ac_arrI e2 (c := na_size) (t := nr_size) (n := 3) (lo := 0) (hi := 3000) (Nat.le_of_ble_eq_true rfl) rfl
  obtain ⟨o1, h1, -⟩ := ac_arrL e2 (c := na_one) (t := nr_one) (n := 9003) (Nat.le_of_ble_eq_true rfl) rfl
  have hdn : d.toNatClampNeg < 6 := by unfold Int32.toNatClampNeg; omega
  have hO2 := bO _ hdn
  have hg0 := hgb 0 (by decide)
  have hK : pa_K 0 (fun e => o1 (0 * 3001 + e)) (g 0) gO gS (gO d.toNatClampNeg).toNatClampNeg ((63 : Nat) : Int) hp4 := by
    refine ⟨e2, fun t ht hu => ?_, ⟨g, o1, hg, h1, fun e _ => rfl⟩, ⟨g, o1, hg, h1, fun e _ => (nm_bc_63 _).2⟩, ⟨g, hg, rfl⟩, hO, hS⟩
    match t, ht, hu with
    | 0, _, _ => exact e5 0 (by decide) c3
    | 2, _, _ => exact e4
    | 1, _, hu => exact absurd rfl hu
    | t + 3, ht, _ => omega
  obtain ⟨r, hp5, p1, p2, p3, p4⟩ := pa_C0 hK d0 d5 rfl hO2.1 hO2.2 rfl hg0.2 (fun e _ => (nm_bc_63 _).2)
  have hf5 : px_fr gt_ws df_wa hp hp5 := px_fr_tr (px_fr_tr (px_fr_tr (px_fr_tr hf1 hf2) (px_fr_mono c4 (by decide) (by decide))) (px_fr_mono e3 (by decide) (by decide))) (px_fr_mono p4 (by decide) (by decide))
  have pre : ∀ (r9 : Option Value) (h9 : px_H), px_Z nm_T none nm_P mm_M_goesThrough 26 [(0, .ref 69), (1, .int d)] [.int r] hp5 r9 h9 → px_Z nm_T none nm_P mm_M_goesThrough 0 (lv_args 0 [.ref 69, .int d]) [] hp r9 h9 := by
    intro r9 h9 h
    refine px_Z_its (pc1 := 2) (lv1 := [(0, .ref 69), (1, .int d)]) (st1 := [.long 0, .ref 69]) (hp1 := hp) 2 (fun _ _ _ _ => rfl) ?_
    refine px_q_putf (len := 3) (ci := 9) (k := nf_drawnSum) (fs := fs) rfl rfl hx hkd rfl rfl rfl rfl ?_
    rw [hh1]
    refine px_Z_its (pc1 := 7) (lv1 := [(0, .ref 69), (1, .int d)]) (st1 := [.long 0, .ref 69]) (hp1 := hpA) 2 (fun _ _ _ _ => rfl) ?_
    refine px_q_putf (len := 3) (ci := 9) (k := nf_vainSum) (fs := fsA) rfl rfl hx1 hkv rfl rfl rfl rfl ?_
    rw [hh2]
    refine px_Z_its (pc1 := 12) (lv1 := [(0, .ref 69), (1, .int d)]) (st1 := [.int d, .ref 69]) (hp1 := hpB) 2 (fun _ _ _ _ => rfl) ?_
    refine px_q_virt (len := 3) (n := 1) (a := 69) (N := mm_M_opensAll) (mi := mi_M_opensAll) (ci := 9) rfl rfl rfl hx2 rfl (Nat.le_of_ble_eq_true rfl) (Nat.le_of_ble_eq_true rfl) rfl rfl c1 ?_
    refine px_Z_its (pc1 := 17) (lv1 := [(0, .ref 69), (1, .int d)]) (st1 := [.int (Int32.ofNat 2), .ref 69]) (hp1 := hp3) 2 (fun _ _ _ _ => rfl) ?_
    refine px_q_virt (len := 3) (n := 1) (a := 69) (N := mm_M_empties) (mi := mi_M_empties) (ci := 9) rfl rfl rfl hx3 rfl (Nat.le_of_ble_eq_true rfl) (Nat.le_of_ble_eq_true rfl) rfl rfl e1 ?_
    refine px_Z_its (pc1 := 23) (lv1 := [(0, .ref 69), (1, .int d)]) (st1 := [.int d, .int (Int32.ofNat 0), .ref 69]) (hp1 := hp4) 3 (fun _ _ _ _ => rfl) ?_
    exact px_q_virt (len := 3) (n := 2) (a := 69) (N := mm_M_parts) (mi := mi_M_parts) (ci := 9) rfl rfl rfl hx4 rfl (Nat.le_of_ble_eq_true rfl) (Nat.le_of_ble_eq_true rfl) rfl rfl p1 h
  rcases p2 with rfl | rfl
  · refine ⟨0, hp5, pre _ _ ?_, Or.inl rfl, p3.1, hf5⟩
    refine px_q_if (bb := false) (len := 3) (c := .ne) (off := 5) rfl (by decide) ?_
    refine px_Z_its (pc1 := 30) (lv1 := [(0, .ref 69), (1, .int d)]) (st1 := [.int 0]) (hp1 := hp5) 1 (fun _ _ _ _ => rfl) ?_
    exact px_q_iret (len := 1) (ty := .boolean) rfl rfl rfl
  · obtain ⟨y1, y2, -, y4, -, y6, y7⟩ := p3
    obtain ⟨r, hp', q1, q2, q3, q4⟩ := gt_outer d0 d5 rfl hO2.1 hO2.2 rfl 63 [(2, .int 1), (0, .ref 69), (1, .int d)] hp5 y1 (y2 0 (by decide) (by decide)) (y2 2 (by decide) (by decide)) y4 y6 y7 rfl rfl rfl
    refine ⟨r, hp', pre _ _ ?_, q2, q3, px_fr_tr hf5 q4⟩
    refine px_q_if (bb := true) (len := 3) (c := .ne) (off := 5) rfl (by decide) ?_
    exact px_Z_its (pc1 := 33) (lv1 := [(2, .int 1), (0, .ref 69), (1, .int d)]) (st1 := []) (hp1 := hp5) 2 (fun _ _ _ _ => rfl) q1
end mg_14
